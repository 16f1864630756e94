/-! small readers of the house -/
def bds (q : xrho) : Prop := isN q 45 0 6 ∧ (∀ c, c < 6 → isN q 46 c 60) ∧ isN q 82 0 1200 ∧ isN q 12 0 40 ∧ isN q 44 0 1100 ∧ isN q 88 0 1900
abbrev ext (t : Nat × Nat) : Prop := t.1 = 7 ∨ t.1 = 8
theorem ho_c {T0 X : Nat} {M : xM} {ow : xOw} {ad : Nat → Nat} {fh fp : Nat → Option Nat} {cl ll dl : List Nat} {q : xrho} (H : FH T0 M ow X ad fh fp cl ll dl q) : xcls M X 11 = true ∧ xgetR M X 11 0 = some (some (ad 0)) ∧ xgetR M X 11 1 = some (some (ad 1)) ∧ xgetR M X 11 2 = some (some (ad 2)) ∧ xgetR M X 11 3 = some (some (ad 3)) ∧ xgetR M X 11 4 = some (some (ad 4)) ∧ xgetR M X 11 5 = some (some (ad 5)) ∧ xgetI M X 11 6 = some (q.1 12 0) ∧ xgetI M X 11 7 = some (q.1 13 0) ∧ xgetI M X 11 8 = some (q.1 14 0) := by
  obtain ⟨g, ⟨h1, -⟩, -⟩ := H
  exact ⟨gC h1, gR h1 0 rfl, gR h1 1 rfl, gR h1 2 rfl, gR h1 3 rfl, gR h1 4 rfl, gR h1 5 rfl, gI h1 6 rfl, gI h1 7 rfl, gI h1 8 rfl⟩
theorem ho_h {T0 X h : Nat} {M : xM} {ow : xOw} {ad : Nat → Nat} {fh fp : Nat → Option Nat} {cl ll dl : List Nat} {q : xrho} (H : FH T0 M ow X ad fh fp cl ll dl q) (hh : h < 6) : xaR M (ad 0) (nI h) = some (fh h) := by
  obtain ⟨g, ⟨-, h1, -⟩, -⟩ := H
  rw [aR h1 rfl, xin_t hh (by decide), nI_clamp (by omega)]
  rfl
theorem ho_p {T0 X r : Nat} {M : xM} {ow : xOw} {ad : Nat → Nat} {fh fp : Nat → Option Nat} {cl ll dl : List Nat} {q : xrho} (H : FH T0 M ow X ad fh fp cl ll dl q) (hr : r < 40) : xaR M (ad 1) (nI r) = some (fp r) := by
  obtain ⟨g, ⟨-, -, h1, -⟩, -⟩ := H
  rw [aR h1 rfl, xin_t hr (by decide), nI_clamp (by omega)]
  rfl
theorem ix_i {n j : Nat} (hj : j < n) (hn : n < 2 ^ 31) : ix (nI j) n = some j := by
  unfold ix
  rw [if_pos ⟨le_0 (by omega), (nI_ltI (by omega) (by omega)).mpr hj⟩, nI_clamp (by omega)]
theorem ix_lo {n : Nat} {x : Int32} (h : x < 0) : ix x n = none := by
  unfold ix
  rw [if_neg (fun e => absurd e.1 (Int32.not_le.mpr h))]
theorem ix_hi {n : Nat} {x : Int32} (h : nI n ≤ x) : ix x n = none := by
  unfold ix
  rw [if_neg (fun e => absurd e.2 (Int32.not_lt.mpr h))]
theorem nlt0 {j : Nat} (h : j < 2 ^ 31) : ¬ nI j < 0 := nI_pos h
theorem c_hostOf {T0 MI X : Nat} {M : xM} {ow : xOw} {ad : Nat → Nat} {fh fp : Nat → Option Nat} {cl ll dl : List Nat} {q : xrho} {x : Int32} (H : FH T0 M ow X ad fh fp cl ll dl q) : xZ T0 MI 88 0 [some (vr (some X)), some (vi x)] [] M = some (some (vr ((ix x 6).bind fh)), M) := by
  obtain ⟨-, h0, -⟩ := ho_c H
  rw [bq_88_0]
  rcases pk_ix x (n := 6) (by decide) with e | e | ⟨j, hj, rfl⟩
  · rw [if_pos e, bq_88_10, bq_88_20, ix_lo e]; rfl
  · rw [if_neg (fun h => absurd (Int32.lt_of_le_of_lt e h) (by decide)), bq_88_4, k_6, if_neg (Int32.not_lt.mpr e), bq_88_10, bq_88_20, ix_hi e]; rfl
  · rw [if_neg (nlt0 (by omega)), bq_88_4, k_6, if_pos ((nI_ltI (by omega) (by decide)).mpr hj), bq_88_14, h0, Option.bind_some, Option.bind_some, ho_h H hj, Option.bind_some, bq_88_20, ix_i hj (by decide)]
    rfl
theorem c_pageOf {T0 MI X : Nat} {M : xM} {ow : xOw} {ad : Nat → Nat} {fh fp : Nat → Option Nat} {cl ll dl : List Nat} {q : xrho} {x : Int32} (H : FH T0 M ow X ad fh fp cl ll dl q) : xZ T0 MI 89 0 [some (vr (some X)), some (vi x)] [] M = some (some (vr ((ix x 40).bind fp)), M) := by
  obtain ⟨-, -, h0, -⟩ := ho_c H
  rw [bq_89_0]
  rcases pk_ix x (n := 40) (by decide) with e | e | ⟨j, hj, rfl⟩
  · rw [if_pos e, bq_89_10, bq_89_20, ix_lo e]; rfl
  · rw [if_neg (fun h => absurd (Int32.lt_of_le_of_lt e h) (by decide)), bq_89_4, k_40, if_neg (Int32.not_lt.mpr e), bq_89_10, bq_89_20, ix_hi e]; rfl
  · rw [if_neg (nlt0 (by omega)), bq_89_4, k_40, if_pos ((nI_ltI (by omega) (by decide)).mpr hj), bq_89_14, h0, Option.bind_some, Option.bind_some, ho_p H hj, Option.bind_some, bq_89_20, ix_i hj (by decide)]
    rfl
theorem nlt_ge {n : Nat} {x : Int32} (hn : n < 2 ^ 31) (e : nI n ≤ x) : ¬ x < 0 := fun h => nI_pos hn (Int32.lt_of_le_of_lt e h)
theorem oL_i {T0 MI : Nat} {M : xM} {ow : xOw} {g pt a j : Nat} {es : List Nat} (hg : g ≠ 8) (h : oList T0 M ow g pt a es) (hj : j < es.length) : xZ T0 MI 208 0 [some (vr (some a)), some (vi (nI j))] [] M = some (some (vr es[j]?), M) := by
  rw [oL_get hg h hj, List.getElem?_eq_getElem hj]
theorem c_callerOf {T0 MI X n : Nat} {M : xM} {ow : xOw} {ad : Nat → Nat} {fh fp : Nat → Option Nat} {cl ll dl : List Nat} {q : xrho} {aa : Nat → Nat} {x : Int32} (H : FH T0 M ow X ad fh fp cl ll dl q) (HC : FC T0 M ow cl q aa n) : xZ T0 MI 90 0 [some (vr (some X)), some (vi x)] [] M = some (some (vr ((ix x (nu q 45 0)).bind (fun c => cl[c]?))), M) := by
  obtain ⟨-, -, -, h0, -⟩ := ho_c H
  have hl : oList T0 M ow 1 3 (ad 2) cl := H.choose_spec.1.2.2.2.2.2.2.1
  have hb := (oL_c hl).2.2.2
  have he := HC.1
  rw [← he, bq_90_0]
  rcases pk_ix x (n := cl.length) (by omega) with e | e | ⟨j, hj, rfl⟩
  · rw [if_pos e, bq_90_15, bq_90_30, ix_lo e]; rfl
  · rw [if_neg (nlt_ge (by omega) e), bq_90_4, h0, Option.bind_some, Option.bind_some, (oL_c hl).1, cond_true, oL_size hl]
    simp (decide := true) (disch := omega) only [Option.bind_some, xasI, xasL, xasR, xin_t, cond_true, cond_false, nI_clamp, k_0, k_1, k_2, k_3, k_4, k_5, k_6, k_40, k_60, k_500, k_10000, pk_mul, nI_add, nI_e0, nI_ee, nI_leI, nI_ltI, xbool0, xbool1, xbn0, xbn1, xb_0, xb_1, reduceIte, one0, Option.isNone_none, ne_eq, not_true_eq_false, not_false_eq_true, if_true, if_false, ite_not, Bool.true_and, Bool.and_true]
    rw [bq_90_12, if_neg (Int32.not_lt.mpr e), bq_90_15, bq_90_30, ix_hi e]
    rfl
  · rw [if_neg (nlt0 (by omega)), bq_90_4, h0, Option.bind_some, Option.bind_some, (oL_c hl).1, cond_true, oL_size hl]
    simp (decide := true) (disch := omega) only [Option.bind_some, xasI, xasL, xasR, xin_t, cond_true, cond_false, nI_clamp, k_0, k_1, k_2, k_3, k_4, k_5, k_6, k_40, k_60, k_500, k_10000, pk_mul, nI_add, nI_e0, nI_ee, nI_leI, nI_ltI, xbool0, xbool1, xbn0, xbn1, xb_0, xb_1, reduceIte, one0, Option.isNone_none, ne_eq, not_true_eq_false, not_false_eq_true, if_true, if_false, ite_not, Bool.true_and, Bool.and_true]
    rw [bq_90_12, if_pos ((nI_ltI (by omega) (by omega)).mpr hj), bq_90_19, h0, Option.bind_some, Option.bind_some, (oL_c hl).1, cond_true, oL_get (by decide) hl hj]
    simp (decide := true) (disch := omega) only [Option.bind_some, xasI, xasL, xasR, xin_t, cond_true, cond_false, nI_clamp, k_0, k_1, k_2, k_3, k_4, k_5, k_6, k_40, k_60, k_500, k_10000, pk_mul, nI_add, nI_e0, nI_ee, nI_leI, nI_ltI, xbool0, xbool1, xbn0, xbn1, xb_0, xb_1, reduceIte, one0, Option.isNone_none, ne_eq, not_true_eq_false, not_false_eq_true, if_true, if_false, ite_not, Bool.true_and, Bool.and_true]
    obtain ⟨_, _, _, _, _, ⟨h1, _⟩, _⟩ := HC.2 j hj
    rw [bq_90_27]
    dsimp only
    rw [gC h1, cond_true, bq_90_30, ix_i hj (by omega), Option.bind_some, List.getElem?_eq_getElem hj]
theorem c_letterOf {T0 MI X : Nat} {M : xM} {ow : xOw} {ad : Nat → Nat} {fh fp : Nat → Option Nat} {cl ll dl : List Nat} {q : xrho} {L : xLs} {aa : Nat → Nat} {pk : Nat → Option Nat} {x : Int32} (H : FH T0 M ow X ad fh fp cl ll dl q) (HL : FL M ow ll q L aa pk) : xZ T0 MI 91 0 [some (vr (some X)), some (vi x)] [] M = some (some (vr ((ix x (nu q 82 0)).bind (fun c => ll[c]?))), M) := by
  obtain ⟨-, -, -, -, h0, -⟩ := ho_c H
  have hl : oList T0 M ow 1 5 (ad 3) ll := H.choose_spec.1.2.2.2.2.2.2.2.1
  have hb := (oL_c hl).2.2.2
  have he := HL.1
  rw [← he, bq_91_0]
  rcases pk_ix x (n := ll.length) (by omega) with e | e | ⟨j, hj, rfl⟩
  · rw [if_pos e, bq_91_15, bq_91_30, ix_lo e]; rfl
  · rw [if_neg (nlt_ge (by omega) e), bq_91_4, h0, Option.bind_some, Option.bind_some, (oL_c hl).1, cond_true, oL_size hl]
    simp (decide := true) (disch := omega) only [Option.bind_some, xasI, xasL, xasR, xin_t, cond_true, cond_false, nI_clamp, k_0, k_1, k_2, k_3, k_4, k_5, k_6, k_40, k_60, k_500, k_10000, pk_mul, nI_add, nI_e0, nI_ee, nI_leI, nI_ltI, xbool0, xbool1, xbn0, xbn1, xb_0, xb_1, reduceIte, one0, Option.isNone_none, ne_eq, not_true_eq_false, not_false_eq_true, if_true, if_false, ite_not, Bool.true_and, Bool.and_true]
    rw [bq_91_12, if_neg (Int32.not_lt.mpr e), bq_91_15, bq_91_30, ix_hi e]
    rfl
  · rw [if_neg (nlt0 (by omega)), bq_91_4, h0, Option.bind_some, Option.bind_some, (oL_c hl).1, cond_true, oL_size hl]
    simp (decide := true) (disch := omega) only [Option.bind_some, xasI, xasL, xasR, xin_t, cond_true, cond_false, nI_clamp, k_0, k_1, k_2, k_3, k_4, k_5, k_6, k_40, k_60, k_500, k_10000, pk_mul, nI_add, nI_e0, nI_ee, nI_leI, nI_ltI, xbool0, xbool1, xbn0, xbn1, xb_0, xb_1, reduceIte, one0, Option.isNone_none, ne_eq, not_true_eq_false, not_false_eq_true, if_true, if_false, ite_not, Bool.true_and, Bool.and_true]
    rw [bq_91_12, if_pos ((nI_ltI (by omega) (by omega)).mpr hj), bq_91_19, h0, Option.bind_some, Option.bind_some, (oL_c hl).1, cond_true, oL_get (by decide) hl hj]
    simp (decide := true) (disch := omega) only [Option.bind_some, xasI, xasL, xasR, xin_t, cond_true, cond_false, nI_clamp, k_0, k_1, k_2, k_3, k_4, k_5, k_6, k_40, k_60, k_500, k_10000, pk_mul, nI_add, nI_e0, nI_ee, nI_leI, nI_ltI, xbool0, xbool1, xbn0, xbn1, xb_0, xb_1, reduceIte, one0, Option.isNone_none, ne_eq, not_true_eq_false, not_false_eq_true, if_true, if_false, ite_not, Bool.true_and, Bool.and_true]
    obtain ⟨_, _, _, _, ⟨h1, _⟩, _⟩ := HL.2 j hj
    rw [bq_91_27]
    dsimp only
    rw [gC h1, cond_true, bq_91_30, ix_i hj (by omega), Option.bind_some, List.getElem?_eq_getElem hj]
theorem c_hasRoom {T0 MI X k : Nat} {M : xM} {ow : xOw} {ad : Nat → Nat} {fh fp : Nat → Option Nat} {cl ll dl : List Nat} {q : xrho} (H : FH T0 M ow X ad fh fp cl ll dl q) (hk : k ≤ 1000) : xZ T0 MI 95 0 [some (vr (some X)), some (vi (nI k))] [] M = some (some (vi (tI (ll.length + k ≤ 1200))), M) := by
  obtain ⟨-, -, -, -, h0, -⟩ := ho_c H
  have hl : oList T0 M ow 1 5 (ad 3) ll := H.choose_spec.1.2.2.2.2.2.2.2.1
  have hb := (oL_c hl).2.2.2
  rw [bq_95_0, h0, Option.bind_some, Option.bind_some, (oL_c hl).1, cond_true, oL_size hl]
  simp (decide := true) (disch := omega) only [Option.bind_some, xasI, xasL, xasR, xin_t, cond_true, cond_false, nI_clamp, k_0, k_1, k_2, k_3, k_4, k_5, k_6, k_40, k_60, k_500, k_10000, pk_mul, nI_add, nI_e0, nI_ee, nI_leI, nI_ltI, xbool0, xbool1, xbn0, xbn1, xb_0, xb_1, reduceIte, one0, Option.isNone_none, ne_eq, not_true_eq_false, not_false_eq_true, if_true, if_false, ite_not, Bool.true_and, Bool.and_true]
  rw [bq_95_7, nI_add, show Int32.ofInt 1200 = nI 1200 from rfl]
  by_cases e : ll.length + k ≤ 1200
  · rw [if_neg (by rw [nI_ltI (by omega) (by omega)]; omega), bq_95_15, bq_95_20, tI_t e]
    rfl
  · rw [if_pos (by rw [nI_ltI (by omega) (by omega)]; omega), bq_95_19, bq_95_20, tI_f e]
    rfl
theorem ft_up {T0 h : Nat} {M : xM} {ow : xOw} {fh : Nat → Option Nat} {q : xrho} {L : xLs} {pk : Nat → Option Nat} (H : FT T0 M ow fh q L pk) (hh : h < 6) : ∃ a, fh h = some a ∧ xgetI M a 3 1 = some (q.1 0 h) ∧ xgetI M a 3 0 = some (nI h) ∧ xcls M a 3 = true := by
  obtain ⟨a, f, h1, ⟨ar, gv, gs, ⟨h2, -⟩, -⟩, -⟩ := H h hh
  exact ⟨a, h1, gI h2 1 rfl, gI h2 0 rfl, gC h2⟩
theorem c_isUp {T0 MI X h : Nat} {M : xM} {ow : xOw} {ad : Nat → Nat} {fh fp : Nat → Option Nat} {cl ll dl : List Nat} {q : xrho} {L : xLs} {pk : Nat → Option Nat} {o2 : Option xV} (H : FH T0 M ow X ad fh fp cl ll dl q) (HT : FT T0 M ow fh q L pk) (hh : h < 6) : xZ T0 MI 93 0 [some (vr (some X)), some (vi (nI h)), o2] [] M = some (some (vi (tI (q.1 0 h ≠ 0))), M) := by
  obtain ⟨a, h1, h2, -⟩ := ft_up HT hh
  rw [bq_93_0, (ho_c H).1, cond_true, c_hostOf H, ix_i hh (by decide), Option.bind_some]
  simp only [Option.bind_some, h1]
  simp (decide := true) (disch := omega) only [Option.bind_some, xasI, xasL, xasR, xin_t, cond_true, cond_false, nI_clamp, k_0, k_1, k_2, k_3, k_4, k_5, k_6, k_40, k_60, k_500, k_10000, pk_mul, nI_add, nI_e0, nI_ee, nI_leI, nI_ltI, xbool0, xbool1, xbn0, xbn1, xb_0, xb_1, reduceIte, one0, Option.isNone_none, ne_eq, not_true_eq_false, not_false_eq_true, if_true, if_false, ite_not, Bool.true_and, Bool.and_true]
  rw [bq_93_5]
  simp only [Option.isNone_some, cond_false]
  rw [bq_93_10, Option.bind_some, h2, Option.bind_some]
  by_cases e : q.1 0 h = 0
  · rw [if_pos e, bq_93_21, bq_93_22, tI_f (fun h => h e)]; rfl
  · rw [if_neg e, bq_93_17, bq_93_22, tI_t e]; rfl
