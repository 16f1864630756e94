/-! one holding changed -/
theorem Rep_hd {T0 X n x y h r a : Nat} {ad : Nat → Nat} {fh fp : Nat → Option Nat} {cl ll dl : List Nat} {aa : Nat → Nat} {pk : Nat → Option Nat} {q q' : xrho} {L L' : xLs} {M M' : xM} {ow ow' : xOw} {f : Nat → Option Nat} (H : Rep T0 X n ad fh fp cl ll dl aa pk q L M ow) (B : bds q) (hh : h < 6) (hr : r < 40) (ha : fh h = some a) (hf : rHost T0 M ow h a f q) (hfs : ∀ r', r' < 40 → rHold M ow (f r') (40 * h + r') q L pk) (hs : stp (fun t => t.1 ≠ 100 + (40 * h + r)) x y ow M ow' M') (hN : rHold M' ow' (f r) (40 * h + r) q' L' pk) (e : ∀ k i, ¬ (15 ≤ k ∧ k ≤ 37) → q'.1 k i = q.1 k i) (e2 : ∀ k p, p ≠ 40 * h + r → (15 ≤ k ∧ k ≤ 18) ∨ (21 ≤ k ∧ k ≤ 23) ∨ (29 ≤ k ∧ k ≤ 33) → q'.1 k p = q.1 k p) (eL : ∀ k i, k ≠ 27 → k ≠ 37 → q'.2 k i = q.2 k i) (l1 : ∀ p, p ≠ 40 * h + r → L'.1 p = L.1 p) (l2 : ∀ p, p ≠ 40 * h + r → L'.2.1 p = L.2.1 p) (l3 : ∀ p c, p ≠ 40 * h + r → c < 6 → L'.2.2.1 (6 * p + c) = L.2.2.1 (6 * p + c)) (l4 : L'.2.2.2 = L.2.2.2) : Rep T0 X n ad fh fp cl ll dl aa pk q' L' M' ow' ∧ rHost T0 M' ow' h a f q' ∧ ∀ r', r' < 40 → rHold M' ow' (f r') (40 * h + r') q' L' pk := by
  obtain ⟨H0, H1, H2, H3, H4, H5, H6, H7⟩ := H
  have hll : ll.length ≤ 1200 := by rw [H6.1]; exact B.2.2.1.2
  have hcl : cl.length ≤ 6 := by rw [H4.1]; exact B.1.2
  have hsm : ∀ p, p ≠ 40 * h + r → hsame q L pk p q' L' pk := fun p hp => ⟨fun k hk => e2 k p hp hk, l1 p hp, l2 p hp, fun c hc => l3 p c hp hc, fun _ _ => rfl⟩
  have hh2 : rHost T0 M' ow' h a f q' := rHost_f hf hs (fun t ht => by omega) (fun t ht => by omega) (fun t ht => by omega) (e 0 h (by omega)) (fun k i a b => e k i (by omega))
  have hf2 : ∀ r', r' < 40 → rHold M' ow' (f r') (40 * h + r') q' L' pk := fun r' hr' => by
    by_cases er : r' = r
    · subst er
      exact hN
    · exact rHold_f (hfs r' hr') hs (fun t ht => by omega) (hsm _ (by omega))
  refine ⟨⟨hs.2.1.2 H0, FH_f H1 hs (fun t a => ?_) (fun t a => ?_) (fun k i a b => e k i (by omega)) (fun k i a b => e k i (by omega)), fun j hj => ?_, FP_f H3 hs (fun t a b => ?_) (fun t a => ?_) (fun k i a b => e k i (by omega)), FC_f H4 hcl hs (fun t a b => ?_) (fun t a => ?_) (fun t a => ?_) (fun k i a b => e k i (by omega)) (fun k i a b => e k i (by omega)) (Nat.le_refl _), FA_f H5 B.1.2 (fun c hc => (B.2.1 c hc).2) hs (fun t a b => ?_) (fun k i a b => e k i (by omega)) (fun k i a b => eL k i (by omega) (by omega)), FL_f H6 hll hs (fun t a b => ?_) (fun t a => ?_) (e 82 0 (by omega)) (fun l hl => ls_of (fun k i a b => e k i (by omega)) (fun k i a b => eL k i (by omega) (by omega)) (fun _ _ => by rw [l4])), FD_f H7 (fun k i a b => e k i (by omega)) (fun k i a b c _ => e k i (by omega))⟩, hh2, hf2⟩
  any_goals omega
  by_cases ej : j = h
  · subst ej
    exact ⟨a, f, ha, hh2, hf2⟩
  · obtain ⟨a2, f2, g1, g2, g3⟩ := H2 j hj
    refine ⟨a2, f2, g1, rHost_f g2 hs (fun t ht => by omega) (fun t ht => by omega) (fun t ht => by omega) (e 0 j (by omega)) (fun k i a b => e k i (by omega)), fun r' hr' => ?_⟩
    have ne : 40 * j + r' ≠ 40 * h + r := by rcases Nat.lt_or_gt_of_ne ej with h | h <;> omega
    exact rHold_f (g3 r' hr') hs (fun t ht => by omega) (hsm _ ne)
/-! the state at a place, and the object there -/
theorem hd_st {M : xM} {ow : xOw} {p a : Nat} {q : xrho} {L : xLs} {pk : Nat → Option Nat} (H : rHold M ow (some a) p q L pk) : xgetI M a 2 0 = some (q.1 15 p) ∧ xcls M a 2 = true := by
  obtain ⟨ra, ka, sa, h, sn, R, K, S, hA, ti⟩ := H
  exact ⟨by rw [← ti.1.1]; exact hA_g hA 0 (Or.inl rfl), hA_c hA⟩
/-- ranges that were never made have nothing anywhere -/
def stz (q : xrho) : Prop := ∀ h r, h < 6 → r < 40 → nu q 12 0 ≤ r → q.1 15 (40 * h + r) = 0
theorem gown_0 {q : xrho} {p : Nat} (h : q.1 15 p = 0) : ¬ gown q p := by
  rintro (e | e | e) <;> exact absurd (e.symm.trans h) (by decide)
theorem gweigh_s (q : xrho) (h : Nat) : ∀ m r m' a, gweigh q h r (m + m') a = gweigh q h (r + m) m' (gweigh q h r m a)
  | 0, r, m', a => by rw [Nat.zero_add]; rfl
  | m + 1, r, m', a => by
    rw [show m + 1 + m' = (m + m') + 1 by omega]
    show gweigh q h (r + 1) (m + m') _ = gweigh q h (r + (m + 1)) m' (gweigh q h (r + 1) m _)
    rw [gweigh_s q h m (r + 1) m', show r + 1 + m = r + (m + 1) by omega]
theorem gweigh_z (q : xrho) (h : Nat) : ∀ m r a, (∀ s, r ≤ s → s < r + m → q.1 15 (40 * h + s) = 0) → gweigh q h r m a = a
  | 0, r, a, _ => rfl
  | m + 1, r, a, hz => by
    show gweigh q h (r + 1) m _ = a
    rw [gweigh_z q h m (r + 1) _ (fun s h1 h2 => hz s (by omega) (by omega)), if_neg (gown_0 (hz r (by omega) (by omega)))]
    exact Int32.add_zero a
theorem c_cntR {T0 MI h a ar gv : Nat} {M : xM} {ow : xOw} {f : Nat → Option Nat} {up : Int32} {gs : List Nat} {q : xrho} {L : xLs} {pk : Nat → Option Nat} (H : oHs T0 M ow h a ar gv f up gs) (hh : h < 6) (hfs : ∀ r', r' < 40 → rHold M ow (f r') (40 * h + r') q L pk) (hX : LX q L) : ∀ m r, r + m = 40 → ∀ acc o3, xZ T0 MI 30 4 [some (vr (some a)), some (vi acc), some (vi (nI r)), o3] [] M = some (some (vi (gweigh q h r m acc)), M) := by
  obtain ⟨h1, h2, -⟩ := H
  intro m
  induction m with
  | zero =>
    intro r hr acc o3
    have : r = 40 := by omega
    subst this
    rw [bq_30_4, k_40, if_pos (by decide), bq_30_44]
    rfl
  | succ m ih =>
    intro r hr acc o3
    have hr40 : r < 40 := by omega
    have rd : xaR M ar (nI r) = some (f r) := by
      rw [aR h2 rfl, xin_t hr40 (by decide), cond_true, nI_clamp (by omega)]
    have hf := hfs r hr40
    rw [bq_30_4, k_40, if_neg (by rw [nI_leI (by omega) (by omega)]; omega), bq_30_10, gR h1 2 rfl, Option.bind_some, Option.bind_some, rd, Option.bind_some]
    show _ = some (some (vi (gweigh q h (r + 1) m (acc + if gown q (40 * h + r) then q.1 19 (40 * h + r) else nI 0))), M)
    cases hfr : f r with
    | none =>
      rw [hfr] at hf
      rw [if_neg (gown_0 hf.1), show acc + nI 0 = acc from Int32.add_zero acc, Option.isNone_none, cond_true, bq_30_38, nI_s, ih (r + 1) (by omega)]
    | some b =>
      rw [hfr] at hf
      obtain ⟨ra, ka, sa, hh, sn, R, K, S, hA, ti⟩ := hf
      have g0 := hA_g hA 0 (Or.inl rfl)
      have t0 := ti.1.1
      have hm : xZ T0 MI 10 0 [some (vr (some b))] [] M = some (some (vi (tI (gown q (40 * h + r)))), M) := by
        have := c_isHome (T0 := T0) (MI := MI) g0 (hA_c hA)
        rw [t0] at this
        exact this
      rw [Option.isNone_some, cond_false, bq_30_21, Option.bind_some, hA_c hA, cond_true, hm]
      simp (decide := true) (disch := omega) only [Option.bind_some, xasI, xasL, xasR, xin_t, cond_true, cond_false, nI_clamp, k_0, k_1, k_2, k_3, k_4, k_5, k_6, k_40, k_60, k_500, k_10000, pk_mul, nI_add, nI_e0, nI_ee, nI_leI, nI_ltI, xbool0, xbool1, xbn0, xbn1, xb_0, xb_1, reduceIte, one0, Option.isNone_none, ne_eq, not_true_eq_false, not_false_eq_true, if_true, if_false, ite_not, Bool.true_and, Bool.and_true]
      by_cases ho : gown q (40 * h + r)
      · have hne : q.1 15 (40 * h + r) ≠ 0 := fun e => gown_0 e ho
        have hR := (ti.2.2.1 hne).2.1
        have e19 := (hX.1.1 (40 * h + r) (by omega)).1
        rw [tI_t ho, if_pos ho, bq_30_25, if_neg one0, bq_30_28, Option.bind_some, hA_4 hA, Option.bind_some, Option.bind_some, oR_sz hA.2.2.2.1, Option.bind_some, bq_30_38, nI_s, ih (r + 1) (by omega), hR, e19]
      · rw [tI_f ho, if_neg ho, show acc + nI 0 = acc from Int32.add_zero acc, bq_30_25, if_pos rfl, bq_30_38, nI_s, ih (r + 1) (by omega)]
theorem c_countR {T0 MI h a ar gv : Nat} {M : xM} {ow : xOw} {f : Nat → Option Nat} {up : Int32} {gs : List Nat} {q : xrho} {L : xLs} {pk : Nat → Option Nat} {o1 o2 o3 : Option xV} (H : oHs T0 M ow h a ar gv f up gs) (hh : h < 6) (hfs : ∀ r', r' < 40 → rHold M ow (f r') (40 * h + r') q L pk) (hX : LX q L) (hz : stz q) (h12 : nu q 12 0 ≤ 40) : xZ T0 MI 30 0 [some (vr (some a)), o1, o2, o3] [] M = some (some (vi (wgt q h)), M) := by
  rw [bq_30_0, k_0, c_cntR H hh hfs hX 40 0 (by omega)]
  unfold wgt
  rw [show (40 : Nat) = nu q 12 0 + (40 - nu q 12 0) by omega, gweigh_s, gweigh_z]
  intro s h1 h2
  exact hz h s hh (by omega) (by omega)
theorem P_weight {T0 MI X n : Nat} {q : xrho} {L : xLs} {M : xM} {ow : xOw} {x : Int32} {o2 : Option xV} (H : RepE T0 X n q L M ow) (B : bds q) (hX : LX q L) (hz : stz q) : ∃ M', xZ T0 MI 81 0 [some (vr (some X)), some (vi x), o2] [] M = some (some (vi (gweight q (nu q 12 0) x).1), M') ∧ RepE T0 X n (gweight q (nu q 12 0) x).2 L M' ow ∧ stp ext 0 0 ow M ow M' := by
  have HE := H
  obtain ⟨ad, fh, fp, cl, ll, dl, aa, pk, H⟩ := H
  rw [bq_81_0, (ho_c H.2.1).1, cond_true, c_hostOf H.2.1]
  unfold gweight
  cases hx : ix x 6 with
  | none =>
    obtain ⟨M', e, h, s⟩ := P_ref (MI := MI) (i := 1) (x := Int32.ofInt (-1)) HE B (by decide) rfl
    refine ⟨M', ?_, h, s⟩
    simp (decide := true) (disch := omega) only [Option.bind_some, xasI, xasL, xasR, xin_t, cond_true, cond_false, nI_clamp, k_0, k_1, k_2, k_3, k_4, k_5, k_6, k_40, k_60, k_500, k_10000, pk_mul, nI_add, nI_e0, nI_ee, nI_leI, nI_ltI, xbool0, xbool1, xbn0, xbn1, xb_0, xb_1, reduceIte, one0, Option.isNone_none, ne_eq, not_true_eq_false, not_false_eq_true, if_true, if_false, ite_not, Bool.true_and, Bool.and_true, Option.bind_none, Option.isNone_none, bq_81_5, bq_81_10, (ho_c H.2.1).1, e, bq_81_15, bq_81_22]
  | some h =>
    obtain ⟨hh, rfl, -⟩ := ix_some (by decide) hx
    obtain ⟨a, f, h1, ⟨ar, gv, gs, oh, -⟩, h6⟩ := H.2.2.1 h hh
    have cr := c_countR (T0 := T0) (MI := MI) (o1 := none) (o2 := none) (o3 := none) oh hh h6 hX hz B.2.2.2.1.2
    refine ⟨M, ?_, HE, stp_rf _ _ _⟩
    simp (decide := true) (disch := omega) only [Option.bind_some, xasI, xasL, xasR, xin_t, cond_true, cond_false, nI_clamp, k_0, k_1, k_2, k_3, k_4, k_5, k_6, k_40, k_60, k_500, k_10000, pk_mul, nI_add, nI_e0, nI_ee, nI_leI, nI_ltI, xbool0, xbool1, xbn0, xbn1, xb_0, xb_1, reduceIte, one0, Option.isNone_none, ne_eq, not_true_eq_false, not_false_eq_true, if_true, if_false, ite_not, Bool.true_and, Bool.and_true, h1, Option.isNone_some, bq_81_5, bq_81_18, gC oh.1, cr, bq_81_22]
    rfl
theorem P_row {T0 MI X n : Nat} {q : xrho} {L : xLs} {M : xM} {ow : xOw} {x y key : Int32} {o4 o5 : Option xV} (H : RepE T0 X n q L M ow) (B : bds q) (hz : stz q) : xZ T0 MI 80 0 [some (vr (some X)), some (vi x), some (vi y), some (vi key), o4, o5] [] M = some (some (vl (grow q L x y key)), M) := by
  obtain ⟨ad, fh, fp, cl, ll, dl, aa, pk, H⟩ := H
  have b12 := B.2.2.2.1.2
  rw [bq_80_0, (ho_c H.2.1).1, cond_true, c_hostOf H.2.1]
  unfold grow
  cases hx : ix x 6 with
  | none =>
    simp (decide := true) (disch := omega) only [Option.bind_some, xasI, xasL, xasR, xin_t, cond_true, cond_false, nI_clamp, k_0, k_1, k_2, k_3, k_4, k_5, k_6, k_40, k_60, k_500, k_10000, pk_mul, nI_add, nI_e0, nI_ee, nI_leI, nI_ltI, xbool0, xbool1, xbn0, xbn1, xb_0, xb_1, reduceIte, one0, Option.isNone_none, ne_eq, not_true_eq_false, not_false_eq_true, if_true, if_false, ite_not, Bool.true_and, Bool.and_true, Option.bind_none, Option.isNone_none, bq_80_5, bq_80_12, bq_80_22, bq_80_29, bq_80_42]
    rfl
  | some h =>
    obtain ⟨hh, rfl, -⟩ := ix_some (by decide) hx
    obtain ⟨a, f, h1, ⟨ar, gv, gs, oh, -⟩, h6⟩ := H.2.2.1 h hh
    simp (decide := true) (disch := omega) only [Option.bind_some, xasI, xasL, xasR, xin_t, cond_true, cond_false, nI_clamp, k_0, k_1, k_2, k_3, k_4, k_5, k_6, k_40, k_60, k_500, k_10000, pk_mul, nI_add, nI_e0, nI_ee, nI_leI, nI_ltI, xbool0, xbool1, xbn0, xbn1, xb_0, xb_1, reduceIte, one0, Option.isNone_none, ne_eq, not_true_eq_false, not_false_eq_true, if_true, if_false, ite_not, Bool.true_and, Bool.and_true, h1, Option.isNone_some, bq_80_5, bq_80_16, gC oh.1, c_look oh]
    cases hy : ix y 40 with
    | none =>
      have hy2 : ix y (nu q 12 0) = none := by
        cases hz2 : ix y (nu q 12 0) with
        | none => rfl
        | some r =>
          obtain ⟨hr, rfl, -⟩ := ix_some (by omega) hz2
          rw [ix_i (show r < 40 by omega) (by decide)] at hy
          cases hy
      rw [hy2]
      simp (decide := true) (disch := omega) only [Option.bind_some, xasI, xasL, xasR, xin_t, cond_true, cond_false, nI_clamp, k_0, k_1, k_2, k_3, k_4, k_5, k_6, k_40, k_60, k_500, k_10000, pk_mul, nI_add, nI_e0, nI_ee, nI_leI, nI_ltI, xbool0, xbool1, xbn0, xbn1, xb_0, xb_1, reduceIte, one0, Option.isNone_none, ne_eq, not_true_eq_false, not_false_eq_true, if_true, if_false, ite_not, Bool.true_and, Bool.and_true, Option.bind_none, Option.isNone_none, bq_80_22, bq_80_29, bq_80_42]
      rfl
    | some r =>
      obtain ⟨hr, rfl, -⟩ := ix_some (by decide) hy
      have hf := h6 r hr
      rw [Option.bind_some]
      cases hfr : f r with
      | none =>
        rw [hfr] at hf
        simp (decide := true) (disch := omega) only [Option.bind_some, xasI, xasL, xasR, xin_t, cond_true, cond_false, nI_clamp, k_0, k_1, k_2, k_3, k_4, k_5, k_6, k_40, k_60, k_500, k_10000, pk_mul, nI_add, nI_e0, nI_ee, nI_leI, nI_ltI, xbool0, xbool1, xbn0, xbn1, xb_0, xb_1, reduceIte, one0, Option.isNone_none, ne_eq, not_true_eq_false, not_false_eq_true, if_true, if_false, ite_not, Bool.true_and, Bool.and_true, Option.isNone_none, bq_80_22, bq_80_29, bq_80_42]
        by_cases hrn : r < nu q 12 0
        · rw [ix_i hrn (by omega)]
          dsimp only
          rw [if_pos hf.1]
          rfl
        · rw [ix_hi ((nI_leI (by omega) (by omega)).mpr (by omega))]
          rfl
      | some b =>
        rw [hfr] at hf
        obtain ⟨ra, ka, sa, hhh, sn, R, K, S, hA, ti⟩ := hf
        simp (decide := true) (disch := omega) only [Option.bind_some, xasI, xasL, xasR, xin_t, cond_true, cond_false, nI_clamp, k_0, k_1, k_2, k_3, k_4, k_5, k_6, k_40, k_60, k_500, k_10000, pk_mul, nI_add, nI_e0, nI_ee, nI_leI, nI_ltI, xbool0, xbool1, xbn0, xbn1, xb_0, xb_1, reduceIte, one0, Option.isNone_none, ne_eq, not_true_eq_false, not_false_eq_true, if_true, if_false, ite_not, Bool.true_and, Bool.and_true, Option.isNone_some, bq_80_22, bq_80_33, hA_4 hA, oR_cls hA.2.2.2.1, oR_value hA.2.2.2.1, bq_80_42]
        by_cases hrn : r < nu q 12 0
        · rw [ix_i hrn (by omega)]
          dsimp only
          by_cases h0 : q.1 15 (40 * h + r) = 0
          · rw [if_pos h0, (ti.2.1 h0).1]
            rfl
          · rw [if_neg h0, (ti.2.2.1 h0).2.1]
        · rw [ix_hi ((nI_leI (by omega) (by omega)).mpr (by omega)), (ti.2.1 (hz h r hh hr (by omega))).1]
          rfl
