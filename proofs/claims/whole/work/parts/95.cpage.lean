/-! look, isFree, range -/
theorem c_look {T0 MI h a ar gv : Nat} {M : xM} {ow : xOw} {f : Nat → Option Nat} {up x : Int32} {gs : List Nat} (H : oHs T0 M ow h a ar gv f up gs) : xZ T0 MI 27 0 [some (vr (some a)), some (vi x)] [] M = some (some (vr ((ix x 40).bind f)), M) := by
  obtain ⟨h1, h2, -⟩ := H
  rw [bq_27_0]
  rcases pk_ix x (n := 40) (by decide) with e | e | ⟨j, hj, rfl⟩
  · rw [if_pos e, bq_27_10, bq_27_20, ix_lo e]; rfl
  · rw [if_neg (nlt_ge (by decide) e), bq_27_4, k_40, if_neg (Int32.not_lt.mpr e), bq_27_10, bq_27_20, ix_hi e]; rfl
  · rw [if_neg (nlt0 (by omega)), bq_27_4, k_40, if_pos ((nI_ltI (by omega) (by decide)).mpr hj), bq_27_14, gR h1 2 rfl, Option.bind_some, Option.bind_some, aR h2 rfl, xin_t hj (by decide), cond_true, Option.bind_some, nI_clamp (by omega), bq_27_20, ix_i hj (by decide)]
    rfl
theorem obit_le (q : xrho) (r k : Nat) : obit q r k ≤ 2 ^ k := by
  unfold obit
  split
  · exact Nat.zero_le _
  · exact Nat.le_refl _
theorem obits_le (q : xrho) (r : Nat) : obits q r ≤ 15 := by
  have h0 := obit_le q r 0
  have h1 := obit_le q r 1
  have h2 := obit_le q r 2
  have h3 := obit_le q r 3
  unfold obits
  omega
theorem obit_0 {q : xrho} {r k : Nat} : obit q r k = 0 ↔ q.1 9 (4 * r + k) < 0 := by
  unfold obit
  constructor
  · intro h
    split at h
    · assumption
    · exact absurd h (Nat.pos_iff_ne_zero.mp (Nat.pow_pos (by decide)))
  · intro h
    rw [if_pos h]
theorem obits_0 {q : xrho} {r : Nat} : obits q r = 0 ↔ ∀ k, k < 4 → q.1 9 (4 * r + k) < 0 := by
  constructor
  · intro h k hk
    unfold obits at h
    have : obit q r k = 0 := by
      rcases (show k = 0 ∨ k = 1 ∨ k = 2 ∨ k = 3 by omega) with rfl | rfl | rfl | rfl <;> omega
    exact obit_0.mp this
  · intro h
    unfold obits
    rw [obit_0.mpr (h 0 (by decide)), obit_0.mpr (h 1 (by decide)), obit_0.mpr (h 2 (by decide)), obit_0.mpr (h 3 (by decide))]
theorem obits_ow {q : xrho} {r : Nat} : obits q r = 0 ↔ ¬ gowed q r := by
  rw [obits_0]
  constructor
  · intro h
    rintro (a | a | a | a)
    · exact absurd a (Int32.not_le.mpr (h 0 (by decide)))
    · exact absurd a (Int32.not_le.mpr (h 1 (by decide)))
    · exact absurd a (Int32.not_le.mpr (h 2 (by decide)))
    · exact absurd a (Int32.not_le.mpr (h 3 (by decide)))
  · intro h k hk
    refine Int32.not_le.mp (fun a => h ?_)
    rcases (show k = 0 ∨ k = 1 ∨ k = 2 ∨ k = 3 by omega) with rfl | rfl | rfl | rfl
    · exact Or.inl a
    · exact Or.inr (Or.inl a)
    · exact Or.inr (Or.inr (Or.inl a))
    · exact Or.inr (Or.inr (Or.inr a))
theorem x_isFree {T0 MI X r a : Nat} {M : xM} {ow : xOw} {ad : Nat → Nat} {fh fp : Nat → Option Nat} {cl ll dl : List Nat} {q : xrho} {L : xLs} {pk : Nat → Option Nat} {o2 o3 : Option xV} (HH : FH T0 M ow X ad fh fp cl ll dl q) (HT : FT T0 M ow fh q L pk) (HP : rPage M ow r (some a) q) (hr : r < 40) (h6 : isN q 6 r 5) : xZ T0 MI 94 0 [some (vr (some X)), some (vr (some a)), o2, o3] [] M = some (some (vi (tI (gfree q r (nu q 6 r)))), M) := by
  obtain ⟨-, s, gi, ta, uw, ⟨p1, -, -⟩, sp, u1, u2, -⟩ := HP
  obtain ⟨-, g0, -, -, -, g4⟩ := sp_g sp
  have hX := (ho_c HH).1
  have ob := obits_le q r
  have h65 : nu q 6 r < 6 := by have := h6.2; omega
  obtain ⟨ha, f, f1, ⟨ar, gv, gs, oh, -⟩, f3⟩ := HT (nu q 6 r) h65
  have lk := c_look (T0 := T0) (MI := MI) (x := nI r) oh
  rw [ix_i hr (by decide), Option.bind_some] at lk
  have hf := f3 r hr
  have ho := c_hostOf (T0 := T0) (MI := MI) (x := q.1 6 r) HH
  rw [h6.1, ix_i h65 (by decide), Option.bind_some, f1] at ho
  rw [h6.1] at g4
  by_cases h7 : q.1 7 r < 0
  · have hu := u1 h7
    by_cases hw : obits q r = 0
    · simp (decide := true) (disch := omega) only [bq_94_0, Option.bind_some, xasI, xasL, xasR, xin_t, cond_true, cond_false, nI_clamp, k_0, k_1, k_2, k_3, k_4, k_5, k_6, k_40, k_60, k_500, k_10000, pk_mul, nI_add, nI_e0, nI_ee, nI_leI, nI_ltI, xbool0, xbool1, xbn0, xbn1, xb_0, xb_1, reduceIte, one0, Option.isNone_none, ne_eq, not_true_eq_false, not_false_eq_true, if_true, if_false, ite_not, Bool.true_and, Bool.and_true, gI p1 4 rfl, hu]
      simp (decide := true) (disch := omega) only [bq_94_7, Option.bind_some, xasI, xasL, xasR, xin_t, cond_true, cond_false, nI_clamp, k_0, k_1, k_2, k_3, k_4, k_5, k_6, k_40, k_60, k_500, k_10000, pk_mul, nI_add, nI_e0, nI_ee, nI_leI, nI_ltI, xbool0, xbool1, xbn0, xbn1, xb_0, xb_1, reduceIte, one0, Option.isNone_none, ne_eq, not_true_eq_false, not_false_eq_true, if_true, if_false, ite_not, Bool.true_and, Bool.and_true, gI p1 5 rfl, hw]
      simp (decide := true) (disch := omega) only [bq_94_16, Option.bind_some, xasI, xasL, xasR, xin_t, cond_true, cond_false, nI_clamp, k_0, k_1, k_2, k_3, k_4, k_5, k_6, k_40, k_60, k_500, k_10000, pk_mul, nI_add, nI_e0, nI_ee, nI_leI, nI_ltI, xbool0, xbool1, xbn0, xbn1, xb_0, xb_1, reduceIte, one0, Option.isNone_none, ne_eq, not_true_eq_false, not_false_eq_true, if_true, if_false, ite_not, Bool.true_and, Bool.and_true, gR p1 0 rfl, g4, hX, ho]
      simp (decide := true) (disch := omega) only [bq_94_27, Option.bind_some, xasI, xasL, xasR, xin_t, cond_true, cond_false, nI_clamp, k_0, k_1, k_2, k_3, k_4, k_5, k_6, k_40, k_60, k_500, k_10000, pk_mul, nI_add, nI_e0, nI_ee, nI_leI, nI_ltI, xbool0, xbool1, xbn0, xbn1, xb_0, xb_1, reduceIte, one0, Option.isNone_none, ne_eq, not_true_eq_false, not_false_eq_true, if_true, if_false, ite_not, Bool.true_and, Bool.and_true, Option.isNone_some]
      simp (decide := true) (disch := omega) only [bq_94_36, Option.bind_some, xasI, xasL, xasR, xin_t, cond_true, cond_false, nI_clamp, k_0, k_1, k_2, k_3, k_4, k_5, k_6, k_40, k_60, k_500, k_10000, pk_mul, nI_add, nI_e0, nI_ee, nI_leI, nI_ltI, xbool0, xbool1, xbn0, xbn1, xb_0, xb_1, reduceIte, one0, Option.isNone_none, ne_eq, not_true_eq_false, not_false_eq_true, if_true, if_false, ite_not, Bool.true_and, Bool.and_true, gR p1 0 rfl, g0, gC oh.1, lk]
      cases hfr : f r with
      | none =>
        rw [hfr] at hf
        rw [tI_f (fun h => absurd (h.2.2.symm.trans hf.1) (by decide))]
        simp (decide := true) (disch := omega) only [bq_94_47, Option.bind_some, xasI, xasL, xasR, xin_t, cond_true, cond_false, nI_clamp, k_0, k_1, k_2, k_3, k_4, k_5, k_6, k_40, k_60, k_500, k_10000, pk_mul, nI_add, nI_e0, nI_ee, nI_leI, nI_ltI, xbool0, xbool1, xbn0, xbn1, xb_0, xb_1, reduceIte, one0, Option.isNone_none, ne_eq, not_true_eq_false, not_false_eq_true, if_true, if_false, ite_not, Bool.true_and, Bool.and_true, bq_94_64, bq_94_65]
        rfl
      | some ah =>
        rw [hfr] at hf
        obtain ⟨ra, ka, sa, hh, sn, R, K, S, hA, ti⟩ := hf
        have h0 := ti.1.1
        have g0 := hA_g hA 0 (Or.inl rfl)
        by_cases h1 : q.1 15 (40 * nu q 6 r + r) = Int32.ofInt 1
        · rw [tI_t ⟨h7, obits_ow.mp hw, h1⟩]
          rw [h1] at h0
          rw [h0] at g0
          simp (decide := true) (disch := omega) only [bq_94_47, Option.bind_some, xasI, xasL, xasR, xin_t, cond_true, cond_false, nI_clamp, k_0, k_1, k_2, k_3, k_4, k_5, k_6, k_40, k_60, k_500, k_10000, pk_mul, nI_add, nI_e0, nI_ee, nI_leI, nI_ltI, xbool0, xbool1, xbn0, xbn1, xb_0, xb_1, reduceIte, one0, Option.isNone_none, ne_eq, not_true_eq_false, not_false_eq_true, if_true, if_false, ite_not, Bool.true_and, Bool.and_true, Option.isNone_some, bq_94_52, g0, bq_94_60, bq_94_65]
          rfl
        · rw [tI_f (fun h => h1 h.2.2)]
          rw [← h0] at h1
          rw [bq_94_47, Option.isNone_some, cond_false, bq_94_52, Option.bind_some, g0, Option.bind_some, if_neg h1]
          simp (decide := true) (disch := omega) only [bq_94_64, Option.bind_some, xasI, xasL, xasR, xin_t, cond_true, cond_false, nI_clamp, k_0, k_1, k_2, k_3, k_4, k_5, k_6, k_40, k_60, k_500, k_10000, pk_mul, nI_add, nI_e0, nI_ee, nI_leI, nI_ltI, xbool0, xbool1, xbn0, xbn1, xb_0, xb_1, reduceIte, one0, Option.isNone_none, ne_eq, not_true_eq_false, not_false_eq_true, if_true, if_false, ite_not, Bool.true_and, Bool.and_true, bq_94_65]
          rfl
    · rw [tI_f (fun h => hw (obits_ow.mpr h.2.1))]
      simp (decide := true) (disch := omega) only [bq_94_0, Option.bind_some, xasI, xasL, xasR, xin_t, cond_true, cond_false, nI_clamp, k_0, k_1, k_2, k_3, k_4, k_5, k_6, k_40, k_60, k_500, k_10000, pk_mul, nI_add, nI_e0, nI_ee, nI_leI, nI_ltI, xbool0, xbool1, xbn0, xbn1, xb_0, xb_1, reduceIte, one0, Option.isNone_none, ne_eq, not_true_eq_false, not_false_eq_true, if_true, if_false, ite_not, Bool.true_and, Bool.and_true, gI p1 4 rfl, hu]
      simp (decide := true) (disch := omega) only [bq_94_7, Option.bind_some, xasI, xasL, xasR, xin_t, cond_true, cond_false, nI_clamp, k_0, k_1, k_2, k_3, k_4, k_5, k_6, k_40, k_60, k_500, k_10000, pk_mul, nI_add, nI_e0, nI_ee, nI_leI, nI_ltI, xbool0, xbool1, xbn0, xbn1, xb_0, xb_1, reduceIte, one0, Option.isNone_none, ne_eq, not_true_eq_false, not_false_eq_true, if_true, if_false, ite_not, Bool.true_and, Bool.and_true, gI p1 5 rfl, hw]
      simp (decide := true) (disch := omega) only [bq_94_14, Option.bind_some, xasI, xasL, xasR, xin_t, cond_true, cond_false, nI_clamp, k_0, k_1, k_2, k_3, k_4, k_5, k_6, k_40, k_60, k_500, k_10000, pk_mul, nI_add, nI_e0, nI_ee, nI_leI, nI_ltI, xbool0, xbool1, xbn0, xbn1, xb_0, xb_1, reduceIte, one0, Option.isNone_none, ne_eq, not_true_eq_false, not_false_eq_true, if_true, if_false, ite_not, Bool.true_and, Bool.and_true]
      rfl
  · have hu := (u2 h7).1
    rw [tI_f (fun h => h7 h.1)]
    simp (decide := true) (disch := omega) only [bq_94_0, Option.bind_some, xasI, xasL, xasR, xin_t, cond_true, cond_false, nI_clamp, k_0, k_1, k_2, k_3, k_4, k_5, k_6, k_40, k_60, k_500, k_10000, pk_mul, nI_add, nI_e0, nI_ee, nI_leI, nI_ltI, xbool0, xbool1, xbn0, xbn1, xb_0, xb_1, reduceIte, one0, Option.isNone_none, ne_eq, not_true_eq_false, not_false_eq_true, if_true, if_false, ite_not, Bool.true_and, Bool.and_true, gI p1 4 rfl, hu]
    simp (decide := true) (disch := omega) only [bq_94_14, Option.bind_some, xasI, xasL, xasR, xin_t, cond_true, cond_false, nI_clamp, k_0, k_1, k_2, k_3, k_4, k_5, k_6, k_40, k_60, k_500, k_10000, pk_mul, nI_add, nI_e0, nI_ee, nI_leI, nI_ltI, xbool0, xbool1, xbn0, xbn1, xb_0, xb_1, reduceIte, one0, Option.isNone_none, ne_eq, not_true_eq_false, not_false_eq_true, if_true, if_false, ite_not, Bool.true_and, Bool.and_true]
    rfl
/-- a range that is there has a page -/
theorem pg_of {T0 X n : Nat} {ad : Nat → Nat} {fh fp : Nat → Option Nat} {cl ll dl : List Nat} {aa : Nat → Nat} {pk : Nat → Option Nat} {q : xrho} {L : xLs} {M : xM} {ow : xOw} {x : Int32} (H : Rep T0 X n ad fh fp cl ll dl aa pk q L M ow) (K : bkOK q) : (ix x 40).bind fp = match grng q x with
    | none => none
    | some r => fp r := by
  have b := K.2.2.2.2.2.2.2
  have e12 := K.2.2.2.2.2.2.1
  unfold grng
  cases hx : ix x (nu q 12 0) with
  | none =>
    dsimp only
    cases hy : ix x 40 with
    | none => rfl
    | some r =>
      obtain ⟨hr, rfl, -⟩ := ix_some (by decide) hy
      have := H.2.2.2.1 r hr
      rw [Option.bind_some]
      cases hp : fp r with
      | none => rfl
      | some a =>
        rw [hp] at this
        have h2 := (K.2.2.1 r hr this.1).1
        rw [ix_i h2 (by omega)] at hx
        cases hx
  | some r =>
    obtain ⟨hr, rfl, -⟩ := ix_some (by omega) hx
    have hp := H.2.2.2.1 r (by omega)
    rw [ix_i (show r < 40 by omega) (by decide), Option.bind_some]
    dsimp only
    by_cases h2 : q.1 2 r = 1
    · rw [if_pos h2]
    · rw [if_neg h2]
      cases hq : fp r with
      | none => rfl
      | some a =>
        rw [hq] at hp
        exact absurd hp.1 h2
theorem pg_some {T0 X n r : Nat} {ad : Nat → Nat} {fh fp : Nat → Option Nat} {cl ll dl : List Nat} {aa : Nat → Nat} {pk : Nat → Option Nat} {q : xrho} {L : xLs} {M : xM} {ow : xOw} {x : Int32} (H : Rep T0 X n ad fh fp cl ll dl aa pk q L M ow) (K : bkOK q) (h : grng q x = some r) : r < 40 ∧ x = nI r ∧ q.1 2 r = 1 ∧ r < nu q 12 0 ∧ ∃ a, fp r = some a ∧ rPage M ow r (some a) q := by
  have e12 := K.2.2.2.2.2.2
  unfold grng at h
  cases hx : ix x (nu q 12 0) with
  | none => rw [hx] at h; cases h
  | some s =>
    rw [hx] at h
    dsimp only at h
    obtain ⟨hr, rfl, -⟩ := ix_some (by have := e12.2; omega) hx
    by_cases h2 : q.1 2 s = 1
    · rw [if_pos h2] at h
      cases h
      have r40 : r < 40 := by have := e12.2; omega
      have hp := H.2.2.2.1 r r40
      refine ⟨r40, rfl, h2, hr, ?_⟩
      cases hq : fp r with
      | none =>
        rw [hq] at hp
        exact absurd hp (bk0 h2)
      | some a =>
        rw [hq] at hp
        exact ⟨a, rfl, hp⟩
    · rw [if_neg h2] at h
      cases h
theorem P_range {T0 MI X n : Nat} {q : xrho} {L : xLs} {M : xM} {ow : xOw} {x what : Int32} {o3 : Option xV} (H : RepE T0 X n q L M ow) (K : bkOK q) : xZ T0 MI 75 0 [some (vr (some X)), some (vi x), some (vi what), o3] [] M = some (some (vi (grange q x what)), M) := by
  obtain ⟨ad, fh, fp, cl, ll, dl, aa, pk, H⟩ := H
  rw [bq_75_0, (ho_c H.2.1).1, cond_true, c_pageOf H.2.1, pg_of H K]
  unfold grange
  cases hx : grng q x with
  | none => simp (decide := true) (disch := omega) only [Option.bind_some, xasI, xasL, xasR, xin_t, cond_true, cond_false, nI_clamp, k_0, k_1, k_2, k_3, k_4, k_5, k_6, k_40, k_60, k_500, k_10000, pk_mul, nI_add, nI_e0, nI_ee, nI_leI, nI_ltI, xbool0, xbool1, xbn0, xbn1, xb_0, xb_1, reduceIte, one0, Option.isNone_none, ne_eq, not_true_eq_false, not_false_eq_true, if_true, if_false, ite_not, Bool.true_and, Bool.and_true, bq_75_5, bq_75_10]; rfl
  | some r =>
    obtain ⟨hr, rfl, h2, hrn, a, ha, hp⟩ := pg_some H K hx
    have h6 := K.2.2.2.2.2.1 r hr
    have fr := x_isFree (T0 := T0) (MI := MI) (o2 := none) (o3 := none) H.2.1 H.2.2.1 hp hr h6
    obtain ⟨-, s, gi, ta, uw, ⟨p1, -, -⟩, sp, u1, u2, -⟩ := hp
    obtain ⟨-, g0, g1, g2, g3, g4⟩ := sp_g sp
    simp (decide := true) (disch := omega) only [Option.bind_some, xasI, xasL, xasR, xin_t, cond_true, cond_false, nI_clamp, k_0, k_1, k_2, k_3, k_4, k_5, k_6, k_40, k_60, k_500, k_10000, pk_mul, nI_add, nI_e0, nI_ee, nI_leI, nI_ltI, xbool0, xbool1, xbn0, xbn1, xb_0, xb_1, reduceIte, one0, Option.isNone_none, ne_eq, not_true_eq_false, not_false_eq_true, if_true, if_false, ite_not, Bool.true_and, Bool.and_true, ha, Option.isNone_some, bq_75_5, bq_75_13]
    rcases sw_cases what 6 (by decide) with ⟨h1, h2⟩ | ⟨k, hk, rfl⟩
    · rw [if_pos (show what.toInt < 0 ∨ (6 : Int) < what.toInt from h1), gsw_out (n := 6) (by simp) h2, bq_75_124]
      rfl
    · rw [if_neg (by rw [nI_toInt (by omega)]; omega), nI_toInt (by omega)]
      have hg := gsw_in (d := n9) (r := [q.1 3 r, q.1 4 r, q.1 5 r, q.1 6 r, if 0 ≤ q.1 7 r then q.1 7 r else n9, nI (obits q r), tI (gfree q r (nu q 6 r))]) (k := 0) (j := k) (by simp) (by simp; omega)
      rw [Nat.zero_add] at hg
      rw [hg]
      match k, hk with
      | 0, _ => show xZ T0 MI 75 56 _ _ _ = _; rw [bq_75_56, Option.bind_some, gR p1 0 rfl, Option.bind_some, Option.bind_some, g1]; rfl
      | 1, _ => show xZ T0 MI 75 64 _ _ _ = _; rw [bq_75_64, Option.bind_some, gR p1 0 rfl, Option.bind_some, Option.bind_some, g2]; rfl
      | 2, _ => show xZ T0 MI 75 72 _ _ _ = _; rw [bq_75_72, Option.bind_some, gR p1 0 rfl, Option.bind_some, Option.bind_some, g3]; rfl
      | 3, _ => show xZ T0 MI 75 80 _ _ _ = _; rw [bq_75_80, Option.bind_some, gR p1 0 rfl, Option.bind_some, Option.bind_some, g4]; rfl
      | 4, _ =>
        show xZ T0 MI 75 88 _ _ _ = some (some (vi (if 0 ≤ q.1 7 r then q.1 7 r else n9)), M)
        rw [bq_75_88, Option.bind_some, gI p1 4 rfl, Option.bind_some]
        by_cases h7 : q.1 7 r < 0
        · rw [u1 h7, if_pos rfl, if_neg (Int32.not_le.mpr h7), bq_75_102, bq_75_104]; rfl
        · rw [(u2 h7).1, if_neg one0, if_pos (Int32.not_lt.mp h7), bq_75_95, Option.bind_some, gI p1 2 rfl, Option.bind_some, bq_75_104, (u2 h7).2.2]
      | 5, _ => show xZ T0 MI 75 105 _ _ _ = _; rw [bq_75_105, Option.bind_some, gI p1 5 rfl]; rfl
      | 6, _ =>
        show xZ T0 MI 75 110 _ _ _ = some (some (vi (tI (gfree q r (nu q 6 r)))), M)
        rw [bq_75_110, (ho_c H.2.1).1, cond_true, fr]
        simp (decide := true) (disch := omega) only [Option.bind_some, xasI, xasL, xasR, xin_t, cond_true, cond_false, nI_clamp, k_0, k_1, k_2, k_3, k_4, k_5, k_6, k_40, k_60, k_500, k_10000, pk_mul, nI_add, nI_e0, nI_ee, nI_leI, nI_ltI, xbool0, xbool1, xbn0, xbn1, xb_0, xb_1, reduceIte, one0, Option.isNone_none, ne_eq, not_true_eq_false, not_false_eq_true, if_true, if_false, ite_not, Bool.true_and, Bool.and_true]
        by_cases hf : gfree q r (nu q 6 r)
        · rw [tI_t hf, bq_75_115, if_neg one0, bq_75_118, bq_75_123]; rfl
        · rw [tI_f hf, bq_75_115, if_pos rfl, bq_75_122, bq_75_123]; rfl
