/-! deliver -/
/-- what deliver needs of a letter, for the class -/
def dlK (q : xrho) (L : xLs) (l : Nat) : Prop := isN q 60 l 14 ∧ isN q 61 l 5 ∧ (nu q 60 l ≠ 1 → nu q 60 l ≠ 2 → isN q 63 l 39) ∧ (nu q 60 l = 0 → isN q 62 l 5 ∧ nu q 62 l < nu q 45 0 ∧ isN q 66 l 59 ∧ nu q 66 l < nu q 46 (nu q 62 l) ∧ isN q 47 (60 * nu q 62 l + nu q 66 l) 4 ∧ (addK (L.2.1 (40 * nu q 61 l + nu q 63 l)) (q.1 48 (60 * nu q 62 l + nu q 66 l))).length < 500) ∧ (nu q 60 l = 1 → nu q 61 l < nu q 45 0 ∧ isN q 66 l 59 ∧ nu q 66 l < nu q 46 (nu q 61 l)) ∧ (nu q 60 l = 2 → nu q 61 l < nu q 45 0 ∧ (q.1 63 l ≠ Int32.ofInt (-9) → isN q 70 l 9999 ∧ isN q 71 l 10000 ∧ nu q 70 l < nu q 71 l)) ∧ (nu q 60 l = 4 → (q.1 69 l = Int32.ofInt (-1) ∨ isN q 69 l 3) ∧ ¬ q.1 68 l < 0) ∧ (nu q 60 l = 5 → q.1 68 l < 0 → q.1 68 l = Int32.ofInt (-1)) ∧ (nu q 60 l = 7 ∨ nu q 60 l = 9 ∨ nu q 60 l = 11 ∨ nu q 60 l = 13 → q.1 62 l = 0) ∧ (nu q 60 l = 8 ∨ nu q 60 l = 10 ∨ nu q 60 l = 12 ∨ nu q 60 l = 14 → ¬ q.1 64 l < 0)
/-- at a host at most one serving span has a key -/
def knU (q : xrho) : Prop := ∀ h s t key, h < 6 → s < 40 → t < 40 → kno q h s key → kno q h t key → s = t
theorem R_move {T0 MI X n l h r a k : Nat} {ad : Nat → Nat} {fh fp : Nat → Option Nat} {cl ll dl : List Nat} {aa : Nat → Nat} {pk : Nat → Option Nat} {q : xrho} {L : xLs} {M : xM} {ow : xOw} (H : Rep T0 X n ad fh fp cl ll dl aa pk q L M ow) (G : gOK q) (V : gvI q) (J : gvJ q) (W : owI q) (K : bkOK q) (hM : mvOK q) (hs05 : ∀ p, p < 240 → isN q 15 p 5) (hl : l < ll.length) (hk : nu q 60 l = k) (hk3 : 3 ≤ k) (D : dlK q L l) (hh : lh q l h r) (ha : fh h = some a) (hroom : ll.length + 2 ≤ 1200) (h44 : nu q 44 0 < 1100) : ∃ M' ow' ll' pk', xZ T0 MI 112 0 [some (vr (some X)), some (vr (some a)), some (vr (some ll[l]))] [] M = some (none, M') ∧ Rep T0 X n ad fh fp cl ll' dl aa pk' (adel1 q L l).1 (adel1 q L l).2 M' ow' ∧ stp ext 60 8000 ow M ow' M' := by
  have n82 : ll.length = nu q 82 0 := H.2.2.2.2.2.2.1.1
  have hh0 := hh
  obtain ⟨e61, hh6, e63, hr40⟩ := hh
  obtain ⟨D60, -, -, -, -, -, D4, D5, D7, D8⟩ := D
  have g0 := (lt_g H hl).1.1
  rw [D60.1, hk] at g0
  have k14 : k ≤ 14 := by rw [← hk]; exact D60.2
  have e60 : q.1 60 l = nI k := by rw [D60.1, hk]
  have n61 : nu q 61 l = h := by unfold nu; rw [e61, nI_clamp (by omega)]
  have n63 : nu q 63 l = r := by unfold nu; rw [e63, nI_clamp (by omega)]
  have hX := (ho_c H.2.1).1
  rw [hk] at D4 D5 D7 D8
  have st : ∀ j, k = 3 + j → xZ T0 MI 112 0 [some (vr (some X)), some (vr (some a)), some (vr (some ll[l]))] [] M = ((#[64, 73, 82, 91, 99, 108, 117, 126, 135, 144, 153, 162] : Array Int)[j]?).bind fun f_3 => xZ T0 MI 112 (((4 : Nat) : Int) + f_3).toNat [some (vr (some X)), some (vr (some a)), some (vr (some ll[l]))] [] M := fun j hj => by
    rw [bq_112_0, Option.bind_some, g0, Option.bind_some, nI_toInt (by omega), if_neg (by omega), show ((k : Int) - 3).toNat = j by omega]
  unfold adel1
  rw [hk]
  rcases (show k = 3 ∨ k = 4 ∨ k = 5 ∨ k = 6 ∨ k = 7 ∨ k = 8 ∨ k = 9 ∨ k = 10 ∨ k = 11 ∨ k = 12 ∨ k = 13 ∨ k = 14 by omega) with rfl | rfl | rfl | rfl | rfl | rfl | rfl | rfl | rfl | rfl | rfl | rfl
  · rw [st 0 rfl]
    rw [n61, n63]
    obtain ⟨M', ow', e1, H1, s1⟩ := R_begin (T0 := T0) (MI := MI) (o0 := some (vr (some X))) (o3 := none) H G.1 hl hh0 e60 ha
    refine ⟨M', ow', ll, pk, ?_, H1, stp_w s1 (fun _ h => h) (by omega) (by omega)⟩
    show xZ T0 MI 112 68 _ _ _ = _
    rw [bq_112_68, hX, cond_true, e1]
    simp (decide := true) (disch := omega) only [Option.bind_some, xasI, xasL, xasR, xin_t, cond_true, cond_false, nI_clamp, k_0, k_1, k_2, k_3, k_4, k_5, k_6, k_40, k_60, k_500, k_10000, pk_mul, nI_add, nI_e0, nI_ee, nI_leI, nI_ltI, xbool0, xbool1, xbn0, xbn1, xb_0, xb_1, reduceIte, one0, Option.isNone_none, ne_eq, not_true_eq_false, not_false_eq_true, if_true, if_false, ite_not, Bool.true_and, Bool.and_true]
    rw [bq_112_74, bq_112_176]
  · rw [st 1 rfl]
    rw [n61, n63]
    obtain ⟨d1, d2⟩ := D4 rfl
    obtain ⟨M', ow', ll', pk', e1, H1, s1⟩ := R_part (T0 := T0) (MI := MI) (o3 := none) (o4 := none) (o5 := none) H G hl hh0 (hs05 _ (by omega)) d1 d2 ha (by omega)
    refine ⟨M', ow', ll', pk', ?_, H1, stp_w s1 (fun _ h => h) (by omega) (by omega)⟩
    show xZ T0 MI 112 77 _ _ _ = _
    rw [bq_112_77, hX, cond_true, e1]
    simp (decide := true) (disch := omega) only [Option.bind_some, xasI, xasL, xasR, xin_t, cond_true, cond_false, nI_clamp, k_0, k_1, k_2, k_3, k_4, k_5, k_6, k_40, k_60, k_500, k_10000, pk_mul, nI_add, nI_e0, nI_ee, nI_leI, nI_ltI, xbool0, xbool1, xbn0, xbn1, xb_0, xb_1, reduceIte, one0, Option.isNone_none, ne_eq, not_true_eq_false, not_false_eq_true, if_true, if_false, ite_not, Bool.true_and, Bool.and_true]
    rw [bq_112_83, bq_112_176]
  · rw [st 2 rfl]
    rw [n61, n63]
    obtain ⟨M', ow', ll', pk', e1, H1, s1⟩ := R_took (T0 := T0) (MI := MI) (o3 := none) H G V J hl hh0 (D5 rfl) ha (by omega)
    refine ⟨M', ow', ll', pk', ?_, H1, stp_w s1 (fun _ h => h) (by omega) (by omega)⟩
    show xZ T0 MI 112 86 _ _ _ = _
    rw [bq_112_86, hX, cond_true, e1]
    simp (decide := true) (disch := omega) only [Option.bind_some, xasI, xasL, xasR, xin_t, cond_true, cond_false, nI_clamp, k_0, k_1, k_2, k_3, k_4, k_5, k_6, k_40, k_60, k_500, k_10000, pk_mul, nI_add, nI_e0, nI_ee, nI_leI, nI_ltI, xbool0, xbool1, xbn0, xbn1, xb_0, xb_1, reduceIte, one0, Option.isNone_none, ne_eq, not_true_eq_false, not_false_eq_true, if_true, if_false, ite_not, Bool.true_and, Bool.and_true]
    rw [bq_112_92, bq_112_176]
  · rw [st 3 rfl]
    rw [n61, n63]
    obtain ⟨M', ow', ll', pk', e1, H1, s1⟩ := R_done (T0 := T0) (MI := MI) (h := h) (o2 := none) H G hM hl e63 hr40 hroom
    refine ⟨M', ow', ll', pk', ?_, H1, stp_w s1 (fun _ h => h) (by omega) (by omega)⟩
    show xZ T0 MI 112 95 _ _ _ = _
    rw [bq_112_95, hX, cond_true, e1]
    simp (decide := true) (disch := omega) only [Option.bind_some, xasI, xasL, xasR, xin_t, cond_true, cond_false, nI_clamp, k_0, k_1, k_2, k_3, k_4, k_5, k_6, k_40, k_60, k_500, k_10000, pk_mul, nI_add, nI_e0, nI_ee, nI_leI, nI_ltI, xbool0, xbool1, xbn0, xbn1, xb_0, xb_1, reduceIte, one0, Option.isNone_none, ne_eq, not_true_eq_false, not_false_eq_true, if_true, if_false, ite_not, Bool.true_and, Bool.and_true]
    rw [bq_112_100, bq_112_176]
  · rw [st 4 rfl]
    rw [n61, n63]
    obtain ⟨M', ow', ll', pk', e1, H1, s1⟩ := R_open (T0 := T0) (MI := MI) (o3 := none) H G hl hh0 (D7 (by omega)) ha (by omega)
    refine ⟨M', ow', ll', pk', ?_, H1, stp_w s1 (fun _ h => h) (by omega) (by omega)⟩
    show xZ T0 MI 112 103 _ _ _ = _
    rw [bq_112_103, hX, cond_true, e1]
    simp (decide := true) (disch := omega) only [Option.bind_some, xasI, xasL, xasR, xin_t, cond_true, cond_false, nI_clamp, k_0, k_1, k_2, k_3, k_4, k_5, k_6, k_40, k_60, k_500, k_10000, pk_mul, nI_add, nI_e0, nI_ee, nI_leI, nI_ltI, xbool0, xbool1, xbn0, xbn1, xb_0, xb_1, reduceIte, one0, Option.isNone_none, ne_eq, not_true_eq_false, not_false_eq_true, if_true, if_false, ite_not, Bool.true_and, Bool.and_true]
    rw [bq_112_109, bq_112_176]
  · rw [st 5 rfl]
    rw [n61, n63]
    obtain ⟨M', ow', e1, H1, s1⟩ := R_settle (T0 := T0) (MI := MI) (k := 0) (o3 := none) H G.1 W K hl e63 hr40 (by decide) (D8 (by omega))
    refine ⟨M', ow', ll, pk, ?_, H1, stp_w s1 (fun _ h => h) (by omega) (by omega)⟩
    show xZ T0 MI 112 112 _ _ _ = _
    rw [bq_112_112, hX, cond_true]
    rw [show xZ T0 MI 122 0 [some (vr (some X)), some (vr (some ll[l])), some (vi (Int32.ofInt 1)), none] [] M = some (none, M') from e1]
    simp (decide := true) (disch := omega) only [Option.bind_some, xasI, xasL, xasR, xin_t, cond_true, cond_false, nI_clamp, k_0, k_1, k_2, k_3, k_4, k_5, k_6, k_40, k_60, k_500, k_10000, pk_mul, nI_add, nI_e0, nI_ee, nI_leI, nI_ltI, xbool0, xbool1, xbn0, xbn1, xb_0, xb_1, reduceIte, one0, Option.isNone_none, ne_eq, not_true_eq_false, not_false_eq_true, if_true, if_false, ite_not, Bool.true_and, Bool.and_true]
    rw [bq_112_118, bq_112_176]
  · rw [st 6 rfl]
    rw [n61, n63]
    obtain ⟨M', ow', ll', pk', e1, H1, s1⟩ := R_go (T0 := T0) (MI := MI) (o3 := none) H G hl hh0 (D7 (by omega)) ha (by omega) h44
    refine ⟨M', ow', ll', pk', ?_, H1, stp_w s1 (fun _ h => h) (by omega) (by omega)⟩
    show xZ T0 MI 112 121 _ _ _ = _
    rw [bq_112_121, hX, cond_true, e1]
    simp (decide := true) (disch := omega) only [Option.bind_some, xasI, xasL, xasR, xin_t, cond_true, cond_false, nI_clamp, k_0, k_1, k_2, k_3, k_4, k_5, k_6, k_40, k_60, k_500, k_10000, pk_mul, nI_add, nI_e0, nI_ee, nI_leI, nI_ltI, xbool0, xbool1, xbn0, xbn1, xb_0, xb_1, reduceIte, one0, Option.isNone_none, ne_eq, not_true_eq_false, not_false_eq_true, if_true, if_false, ite_not, Bool.true_and, Bool.and_true]
    rw [bq_112_127, bq_112_176]
  · rw [st 7 rfl]
    rw [n61, n63]
    obtain ⟨M', ow', e1, H1, s1⟩ := R_settle (T0 := T0) (MI := MI) (k := 1) (o3 := none) H G.1 W K hl e63 hr40 (by decide) (D8 (by omega))
    refine ⟨M', ow', ll, pk, ?_, H1, stp_w s1 (fun _ h => h) (by omega) (by omega)⟩
    show xZ T0 MI 112 130 _ _ _ = _
    rw [bq_112_130, hX, cond_true]
    rw [show xZ T0 MI 122 0 [some (vr (some X)), some (vr (some ll[l])), some (vi (Int32.ofInt 2)), none] [] M = some (none, M') from e1]
    simp (decide := true) (disch := omega) only [Option.bind_some, xasI, xasL, xasR, xin_t, cond_true, cond_false, nI_clamp, k_0, k_1, k_2, k_3, k_4, k_5, k_6, k_40, k_60, k_500, k_10000, pk_mul, nI_add, nI_e0, nI_ee, nI_leI, nI_ltI, xbool0, xbool1, xbn0, xbn1, xb_0, xb_1, reduceIte, one0, Option.isNone_none, ne_eq, not_true_eq_false, not_false_eq_true, if_true, if_false, ite_not, Bool.true_and, Bool.and_true]
    rw [bq_112_136, bq_112_176]
  · rw [st 8 rfl]
    rw [n61, n63]
    obtain ⟨M', ow', ll', pk', e1, H1, s1⟩ := R_undoL (T0 := T0) (MI := MI) (o3 := none) (o4 := none) H G hl hh0 (D7 (by omega)) ha (by omega)
    refine ⟨M', ow', ll', pk', ?_, H1, stp_w s1 (fun _ h => h) (by omega) (by omega)⟩
    show xZ T0 MI 112 139 _ _ _ = _
    rw [bq_112_139, hX, cond_true, e1]
    simp (decide := true) (disch := omega) only [Option.bind_some, xasI, xasL, xasR, xin_t, cond_true, cond_false, nI_clamp, k_0, k_1, k_2, k_3, k_4, k_5, k_6, k_40, k_60, k_500, k_10000, pk_mul, nI_add, nI_e0, nI_ee, nI_leI, nI_ltI, xbool0, xbool1, xbn0, xbn1, xb_0, xb_1, reduceIte, one0, Option.isNone_none, ne_eq, not_true_eq_false, not_false_eq_true, if_true, if_false, ite_not, Bool.true_and, Bool.and_true]
    rw [bq_112_145, bq_112_176]
  · rw [st 9 rfl]
    rw [n61, n63]
    obtain ⟨M', ow', e1, H1, s1⟩ := R_settle (T0 := T0) (MI := MI) (k := 2) (o3 := none) H G.1 W K hl e63 hr40 (by decide) (D8 (by omega))
    refine ⟨M', ow', ll, pk, ?_, H1, stp_w s1 (fun _ h => h) (by omega) (by omega)⟩
    show xZ T0 MI 112 148 _ _ _ = _
    rw [bq_112_148, hX, cond_true]
    rw [show xZ T0 MI 122 0 [some (vr (some X)), some (vr (some ll[l])), some (vi (Int32.ofInt 4)), none] [] M = some (none, M') from e1]
    simp (decide := true) (disch := omega) only [Option.bind_some, xasI, xasL, xasR, xin_t, cond_true, cond_false, nI_clamp, k_0, k_1, k_2, k_3, k_4, k_5, k_6, k_40, k_60, k_500, k_10000, pk_mul, nI_add, nI_e0, nI_ee, nI_leI, nI_ltI, xbool0, xbool1, xbn0, xbn1, xb_0, xb_1, reduceIte, one0, Option.isNone_none, ne_eq, not_true_eq_false, not_false_eq_true, if_true, if_false, ite_not, Bool.true_and, Bool.and_true]
    rw [bq_112_154, bq_112_176]
  · rw [st 10 rfl]
    rw [n61, n63]
    obtain ⟨M', ow', ll', pk', e1, H1, s1⟩ := R_drop (T0 := T0) (MI := MI) (o3 := none) H G hl hh0 (D7 (by omega)) ha (by omega)
    refine ⟨M', ow', ll', pk', ?_, H1, stp_w s1 (fun _ h => h) (by omega) (by omega)⟩
    show xZ T0 MI 112 157 _ _ _ = _
    rw [bq_112_157, hX, cond_true, e1]
    simp (decide := true) (disch := omega) only [Option.bind_some, xasI, xasL, xasR, xin_t, cond_true, cond_false, nI_clamp, k_0, k_1, k_2, k_3, k_4, k_5, k_6, k_40, k_60, k_500, k_10000, pk_mul, nI_add, nI_e0, nI_ee, nI_leI, nI_ltI, xbool0, xbool1, xbn0, xbn1, xb_0, xb_1, reduceIte, one0, Option.isNone_none, ne_eq, not_true_eq_false, not_false_eq_true, if_true, if_false, ite_not, Bool.true_and, Bool.and_true]
    rw [bq_112_163, bq_112_176]
  · rw [st 11 rfl]
    rw [n61, n63]
    obtain ⟨M', ow', e1, H1, s1⟩ := R_settle (T0 := T0) (MI := MI) (k := 3) (o3 := none) H G.1 W K hl e63 hr40 (by decide) (D8 (by omega))
    refine ⟨M', ow', ll, pk, ?_, H1, stp_w s1 (fun _ h => h) (by omega) (by omega)⟩
    show xZ T0 MI 112 166 _ _ _ = _
    rw [bq_112_166, hX, cond_true]
    rw [show xZ T0 MI 122 0 [some (vr (some X)), some (vr (some ll[l])), some (vi (Int32.ofInt 8)), none] [] M = some (none, M') from e1]
    simp (decide := true) (disch := omega) only [Option.bind_some, xasI, xasL, xasR, xin_t, cond_true, cond_false, nI_clamp, k_0, k_1, k_2, k_3, k_4, k_5, k_6, k_40, k_60, k_500, k_10000, pk_mul, nI_add, nI_e0, nI_ee, nI_leI, nI_ltI, xbool0, xbool1, xbn0, xbn1, xb_0, xb_1, reduceIte, one0, Option.isNone_none, ne_eq, not_true_eq_false, not_false_eq_true, if_true, if_false, ite_not, Bool.true_and, Bool.and_true]
    rw [bq_112_173, bq_112_176]
theorem Rep_n {T0 X n n' : Nat} {ad : Nat → Nat} {fh fp : Nat → Option Nat} {cl ll dl : List Nat} {aa : Nat → Nat} {pk : Nat → Option Nat} {q : xrho} {L : xLs} {M : xM} {ow : xOw} (H : Rep T0 X n ad fh fp cl ll dl aa pk q L M ow) (hn : n ≤ n') : Rep T0 X n' ad fh fp cl ll dl aa pk q L M ow := by
  obtain ⟨H0, H1, H2, H3, ⟨h4, h5⟩, H5, H6, H7⟩ := H
  refine ⟨H0, H1, H2, H3, ⟨h4, fun c hc => ?_⟩, H5, H6, H7⟩
  obtain ⟨cp, ak, cs, as, vs, x1, x2, x3, x4, x5⟩ := h5 c hc
  exact ⟨cp, ak, cs, as, vs, x1, x2, x3, by omega, x5⟩
theorem P_deliver {T0 MI X n : Nat} {q : xrho} {L : xLs} {M : xM} {ow : xOw} {x : Int32} {o2 o3 : Option xV} (H : RepE T0 X n q L M ow) (hn : n ≤ 600) (G : gOK q) (V : gvI q) (J : gvJ q) (W : owI q) (K : bkOK q) (hM : mvOK q) (hs05 : ∀ p, p < 240 → isN q 15 p 5) (D : ∀ l, l < nu q 82 0 → dlK q L l) (U : knU q) (hz : stz q) (hV : gvOK q) (h44 : nu q 44 0 < 1100) (h88 : nu q 88 0 < 1900) : ∃ M' ow', xZ T0 MI 83 0 [some (vr (some X)), some (vi x), o2, o3] [] M = some (some (vi (adel q L x).1), M') ∧ RepE T0 X (n + 1) (adel q L x).2.1 (adel q L x).2.2 M' ow' ∧ stp ext 60 8000 ow M ow' M' := by
  have HE : RepE T0 X (n + 1) q L M ow := by
    obtain ⟨ad, fh, fp, cl, ll, dl, aa, pk, H⟩ := H
    exact ⟨_, _, _, _, _, _, _, _, Rep_n H (Nat.le_succ _)⟩
  obtain ⟨ad, fh, fp, cl, ll, dl, aa, pk, H⟩ := H
  have B := G.1
  have n82 : ll.length = nu q 82 0 := H.2.2.2.2.2.2.1.1
  have hX := (ho_c H.2.1).1
  have b82 := B.2.2.1.2
  have rw0 : ∀ {A B : xM} {a b : xOw}, stp ext 0 0 a A b B → stp ext 60 8000 a A b B := fun s => stp_w s (fun _ h => h) (by omega) (by omega)
  rw [bq_83_0, hX, cond_true, c_letterOf H.2.1 H.2.2.2.2.2.2.1]
  unfold adel
  cases hx : ix x (nu q 82 0) with
  | none =>
    obtain ⟨M', e, h, s⟩ := P_ref (MI := MI) (i := 1) (x := Int32.ofInt (-1)) HE B (by decide) rfl
    refine ⟨M', ow, ?_, h, rw0 s⟩
    simp (decide := true) (disch := omega) only [Option.bind_some, xasI, xasL, xasR, xin_t, cond_true, cond_false, nI_clamp, k_0, k_1, k_2, k_3, k_4, k_5, k_6, k_40, k_60, k_500, k_10000, pk_mul, nI_add, nI_e0, nI_ee, nI_leI, nI_ltI, xbool0, xbool1, xbn0, xbn1, xb_0, xb_1, reduceIte, one0, Option.isNone_none, ne_eq, not_true_eq_false, not_false_eq_true, if_true, if_false, ite_not, Bool.true_and, Bool.and_true, Option.bind_none, Option.isNone_none, bq_83_5, bq_83_10, hX, e, bq_83_15]
  | some l =>
    obtain ⟨hl, rfl, -⟩ := ix_some (by omega) hx
    have hlD := hl
    rw [← n82] at hl
    obtain ⟨⟨g0, g1, g2, g3, g4⟩, ⟨-, -, -, g14, g15⟩, ⟨lo, lb⟩, -⟩ := lt_g H hl
    simp (decide := true) (disch := omega) only [Option.bind_some, xasI, xasL, xasR, xin_t, cond_true, cond_false, nI_clamp, k_0, k_1, k_2, k_3, k_4, k_5, k_6, k_40, k_60, k_500, k_10000, pk_mul, nI_add, nI_e0, nI_ee, nI_leI, nI_ltI, xbool0, xbool1, xbn0, xbn1, xb_0, xb_1, reduceIte, one0, Option.isNone_none, ne_eq, not_true_eq_false, not_false_eq_true, if_true, if_false, ite_not, Bool.true_and, Bool.and_true, List.getElem?_eq_getElem hl, Option.isNone_some, bq_83_5]
    rw [bq_83_16, Option.bind_some, g14, Option.bind_some]
    by_cases c75 : q.1 75 l = 0
    · have er := c_hasRoom (T0 := T0) (MI := MI) (k := 2) H.2.1 (by decide)
      rw [if_pos c75, if_pos c75, bq_83_30, hX, cond_true, k_2, er]
      simp (decide := true) (disch := omega) only [Option.bind_some, xasI, xasL, xasR, xin_t, cond_true, cond_false, nI_clamp, k_0, k_1, k_2, k_3, k_4, k_5, k_6, k_40, k_60, k_500, k_10000, pk_mul, nI_add, nI_e0, nI_ee, nI_leI, nI_ltI, xbool0, xbool1, xbn0, xbn1, xb_0, xb_1, reduceIte, one0, Option.isNone_none, ne_eq, not_true_eq_false, not_false_eq_true, if_true, if_false, ite_not, Bool.true_and, Bool.and_true]
      rw [bq_83_35]
      by_cases cr : nu q 82 0 < 1199
      · rw [if_pos cr, tI_t (by omega), if_neg one0]
        obtain ⟨lf, lv, lask, ltold, lo1, lt⟩ := H.2.2.2.2.2.2.1.2 l hl
        have l15 := lt.1.2.2.2.2.2.2.2.2.2
        -- the count
        obtain ⟨M1, e1, lo2, s1⟩ := le_i lo1 15 (q.1 65 l + nI 1) (by decide)
        have H1 : Rep T0 X n ad fh fp cl ll dl aa pk (rup q 65 l (q.1 65 l + nI 1)) L M1 ow := by
          refine Rep_le H B hl s1 ⟨_, _, _, _, lo2, ?_⟩ (fun k i a b => by rw [rup_ne _ _ _ _ a]) (fun k i a => by rw [rup_r, if_neg (fun e => a e.2)]) (fun _ _ => rfl)
          exact leT_n lt s1 (fun t ht => by omega) (fun k i a b => by rw [rup_ne _ _ _ _ a]) (fun _ _ => rfl) (fun k hk => upd_ne _ _ (by omega)) (by rw [upd_ne _ _ (by decide), rup_ne _ _ _ _ (by decide)]; exact lt.1.2.2.2.2.2.2.2.2.1) (by rw [upd_at, rup_at])
        have G1 : gOK (rup q 65 l (q.1 65 l + nI 1)) := by
          refine ⟨bds_e B (fun k i hk => by rw [rup_ne _ _ _ _ (by omega)]), G.2.1, fun z a b => ?_⟩
          have a' : nu q 82 0 ≤ z := a
          rw [rup_r, if_neg (by omega), rup_ne _ _ _ _ (by decide)]
          exact G.2.2 z a' b
        have D1 : dlK (rup q 65 l (q.1 65 l + nI 1)) L l := D l hlD
        generalize hq1 : rup q 65 l (q.1 65 l + nI 1) = q1 at H1 G1 D1
        have V1 : gvI q1 := by rw [← hq1]; exact V
        have J1 : gvJ q1 := by rw [← hq1]; exact J
        have W1 : owI q1 := by rw [← hq1]; exact W
        have K1 : bkOK q1 := by rw [← hq1]; exact K
        have hM1 : mvOK q1 := by rw [← hq1]; exact hM
        have s051 : ∀ p, p < 240 → isN q1 15 p 5 := by rw [← hq1]; exact hs05
        have U1 : knU q1 := by rw [← hq1]; exact U
        have hz1 : stz q1 := by rw [← hq1]; exact hz
        have hV1 : gvOK q1 := by rw [← hq1]; exact hV
        have qe1 : ∀ k i, k ≠ 65 → q1.1 k i = q.1 k i := fun k i hk => by rw [← hq1, rup_ne _ _ _ _ hk]
        have x88 : nu q1 88 0 < 1900 := by rw [nu_e (qe1 88 0 (by decide))]; exact h88
        have x44 : nu q1 44 0 < 1100 := by rw [nu_e (qe1 44 0 (by decide))]; exact h44
        have hX1 := (ho_c H1.2.1).1
        obtain ⟨⟨p0, -, p2, -, -⟩, -⟩ := lt_g H1 hl
        obtain ⟨d60, d61, d63, d0, d1, d2, -⟩ := id D1
        have n60 : nu q 60 l = nu q1 60 l := (nu_e (qe1 60 l (by decide))).symm
        have n61 : nu q 61 l = nu q1 61 l := (nu_e (qe1 61 l (by decide))).symm
        have c1s : stp ext 0 0 ow M ow M1 := ext_of s1 (fun t ht => by omega) (Nat.le_refl _) (Nat.le_refl _)
        rw [n60, n61, ← qe1 0 (nu q1 61 l) (by decide)]
        have st45 : xZ T0 MI 83 45 [some (vr (some X)), xinv (some (vi (nI l))), some (vr (some ll[l])), o3] [] M = if q1.1 60 l = nI 1 then xZ T0 MI 83 71 [some (vr (some X)), xinv (some (vi (nI l))), some (vr (some ll[l])), o3] [] M1 else if q1.1 60 l = nI 2 then xZ T0 MI 83 71 [some (vr (some X)), xinv (some (vi (nI l))), some (vr (some ll[l])), o3] [] M1 else xZ T0 MI 83 78 [some (vr (some X)), xinv (some (vi (nI l))), some (vr (some ll[l])), o3] [] M1 := by
          rw [bq_83_45, Option.bind_some, g15, Option.bind_some, Option.bind_some, k_1, e1, Option.bind_some, Option.bind_some, p0, Option.bind_some]
          by_cases c1 : q1.1 60 l = nI 1
          · rw [if_pos c1, if_pos c1]
          · rw [if_neg c1, if_neg c1, bq_83_63, Option.bind_some, p0, Option.bind_some, k_2]
        have e60 : ∀ k, k ≤ 14 → (q1.1 60 l = nI k ↔ nu q1 60 l = k) := fun k hk => by
          rw [d60.1, nI_ee (by have := d60.2; omega) (by omega)]
        have R1 : ∀ {z : xrho × xLs} {M2 : xM} {ow2 : xOw}, RepE T0 X (n + 1) z.1 z.2 M2 ow2 → stp ext 60 8000 ow M1 ow2 M2 → xZ T0 MI 83 45 [some (vr (some X)), xinv (some (vi (nI l))), some (vr (some ll[l])), o3] [] M = some (some (vi (nI 1)), M2) → z = adel1 q1 L l → ((nu q1 60 l = 1 ∨ nu q1 60 l = 2) ∨ ¬ q1.1 0 (nu q1 61 l) = 0) → ∃ M' ow', xZ T0 MI 83 45 [some (vr (some X)), xinv (some (vi (nI l))), some (vr (some ll[l])), o3] [] M = some (some (vi (if (nu q1 60 l = 1 ∨ nu q1 60 l = 2) ∨ ¬ q1.1 0 (nu q1 61 l) = 0 then (nI 1, adel1 q1 L l) else (nI 0, q1, L)).1), M') ∧ RepE T0 X (n + 1) (if (nu q1 60 l = 1 ∨ nu q1 60 l = 2) ∨ ¬ q1.1 0 (nu q1 61 l) = 0 then (nI 1, adel1 q1 L l) else (nI 0, q1, L)).2.1 (if (nu q1 60 l = 1 ∨ nu q1 60 l = 2) ∨ ¬ q1.1 0 (nu q1 61 l) = 0 then (nI 1, adel1 q1 L l) else (nI 0, q1, L)).2.2 M' ow' ∧ stp ext 60 8000 ow M ow' M' := fun {z M2 ow2} hr hs he hz hc => by
          rw [if_pos hc]
          subst hz
          exact ⟨M2, ow2, he, hr, stp_w (stp_tr c1s hs) (fun _ h => h) (by omega) (by omega)⟩
        by_cases k1 : nu q1 60 l = 1
        · obtain ⟨y1, y2, y3⟩ := d1 k1
          obtain ⟨M2, ow2, e2, H2, s2⟩ := R_hearA (T0 := T0) (MI := MI) (o2 := none) (o3 := none) H1 G1.1 hl ((e60 1 (by decide)).mpr k1) d61.1 y1 y2.1 y3
          refine R1 (z := (gheardA q1 l (60 * nu q1 61 l + nu q1 66 l), L)) ⟨_, _, _, _, _, _, _, _, Rep_n H2 (Nat.le_succ _)⟩ (stp_w s2 (fun _ h => h) (by omega) (by omega)) ?_ ?_ (Or.inl (Or.inl k1))
          · rw [st45, if_pos ((e60 1 (by decide)).mpr k1), bq_83_71, hX1, cond_true, e2]
            simp (decide := true) (disch := omega) only [Option.bind_some, xasI, xasL, xasR, xin_t, cond_true, cond_false, nI_clamp, k_0, k_1, k_2, k_3, k_4, k_5, k_6, k_40, k_60, k_500, k_10000, pk_mul, nI_add, nI_e0, nI_ee, nI_leI, nI_ltI, xbool0, xbool1, xbn0, xbn1, xb_0, xb_1, reduceIte, one0, Option.isNone_none, ne_eq, not_true_eq_false, not_false_eq_true, if_true, if_false, ite_not, Bool.true_and, Bool.and_true]
            rw [bq_83_76]
            rfl
          · unfold adel1
            rw [k1]
            rfl
        · by_cases k2 : nu q1 60 l = 2
          · obtain ⟨y1, y2⟩ := d2 k2
            obtain ⟨M2, ow2, e2, H2, s2⟩ := R_hearO (T0 := T0) (MI := MI) (o2 := none) (o3 := none) H1 G1.1 hn hl ((e60 2 (by decide)).mpr k2) d61.1 y1 y2
            refine R1 (z := (gold q1 l, L)) ⟨_, _, _, _, _, _, _, _, H2⟩ (stp_w s2 (fun _ h => h) (by omega) (by omega)) ?_ ?_ (Or.inl (Or.inr k2))
            · rw [st45, if_neg (fun e => k1 ((e60 1 (by decide)).mp e)), if_pos ((e60 2 (by decide)).mpr k2), bq_83_71, hX1, cond_true, e2]
              simp (decide := true) (disch := omega) only [Option.bind_some, xasI, xasL, xasR, xin_t, cond_true, cond_false, nI_clamp, k_0, k_1, k_2, k_3, k_4, k_5, k_6, k_40, k_60, k_500, k_10000, pk_mul, nI_add, nI_e0, nI_ee, nI_leI, nI_ltI, xbool0, xbool1, xbn0, xbn1, xb_0, xb_1, reduceIte, one0, Option.isNone_none, ne_eq, not_true_eq_false, not_false_eq_true, if_true, if_false, ite_not, Bool.true_and, Bool.and_true]
              rw [bq_83_76]
              rfl
            · unfold adel1
              rw [k2]
              rfl
          · have h6 : nu q1 61 l < 6 := by have := d61.2; omega
            obtain ⟨a, ha, hu, -, hac⟩ := ft_up H1.2.2.1 h6
            have d63' := d63 k1 k2
            have hlh : lh q1 l (nu q1 61 l) (nu q1 63 l) := ⟨d61.1, h6, d63'.1, by have := d63'.2; omega⟩
            have st78 : xZ T0 MI 83 45 [some (vr (some X)), xinv (some (vi (nI l))), some (vr (some ll[l])), o3] [] M = if q1.1 0 (nu q1 61 l) = 0 then xZ T0 MI 83 98 [some (vr (some X)), xinv (some (vi (nI l))), some (vr (some ll[l])), some (vr (some a))] [] M1 else xZ T0 MI 83 100 [some (vr (some X)), xinv (some (vi (nI l))), some (vr (some ll[l])), some (vr (some a))] [] M1 := by
              rw [d61.1] at p2
              rw [st45, if_neg (fun e => k1 ((e60 1 (by decide)).mp e)), if_neg (fun e => k2 ((e60 2 (by decide)).mp e)), bq_83_78, Option.bind_some, p2, Option.bind_some, hX1, cond_true, x_host H1.2.1 h6 ha]
              simp (decide := true) (disch := omega) only [Option.bind_some, xasI, xasL, xasR, xin_t, cond_true, cond_false, nI_clamp, k_0, k_1, k_2, k_3, k_4, k_5, k_6, k_40, k_60, k_500, k_10000, pk_mul, nI_add, nI_e0, nI_ee, nI_leI, nI_ltI, xbool0, xbool1, xbn0, xbn1, xb_0, xb_1, reduceIte, one0, Option.isNone_none, ne_eq, not_true_eq_false, not_false_eq_true, if_true, if_false, ite_not, Bool.true_and, Bool.and_true]
              rw [bq_83_86, Option.isNone_some, cond_false, bq_83_91, Option.bind_some, hu, Option.bind_some]
            by_cases up : q1.1 0 (nu q1 61 l) = 0
            · have nc : ¬ ((nu q1 60 l = 1 ∨ nu q1 60 l = 2) ∨ ¬ q1.1 0 (nu q1 61 l) = 0) := fun e => e.elim (fun e => e.elim k1 k2) (fun e => e up)
              rw [if_neg nc]
              refine ⟨M1, ow, ?_, ⟨_, _, _, _, _, _, _, _, Rep_n H1 (Nat.le_succ _)⟩, rw0 c1s⟩
              rw [st78, if_pos up, bq_83_98]
              rfl
            · by_cases k0 : nu q1 60 l = 0
              · obtain ⟨y1, y2, y3, y4, y5, y6⟩ := d0 k0
                obtain ⟨M2, ow2, ll2, dl2, pk2, e2, H2, s2⟩ := R_called (T0 := T0) (MI := MI) (o3 := none) (o4 := none) (o5 := none) (o6 := none) H1 G1 hl ((e60 0 (by decide)).mpr k0) hlh y1.1 y2 y3.1 y4 y5 y6 (by omega) x88 ha hz1 hV1 (fun s t hs ht => U1 (nu q1 61 l) s t _ h6 hs ht)
                refine R1 (z := acall q1 L l (nu q1 61 l) (nu q1 63 l)) ⟨_, _, _, _, _, _, _, _, Rep_n H2 (Nat.le_succ _)⟩ (stp_w s2 (fun _ h => h) (by omega) (by omega)) ?_ ?_ (Or.inr up)
                · rw [st78, if_neg up, bq_83_100, Option.bind_some, p0, Option.bind_some, if_pos (show q1.1 60 l = 0 from (e60 0 (by decide)).mpr k0), bq_83_107, hX1, cond_true, e2]
                  simp (decide := true) (disch := omega) only [Option.bind_some, xasI, xasL, xasR, xin_t, cond_true, cond_false, nI_clamp, k_0, k_1, k_2, k_3, k_4, k_5, k_6, k_40, k_60, k_500, k_10000, pk_mul, nI_add, nI_e0, nI_ee, nI_leI, nI_ltI, xbool0, xbool1, xbn0, xbn1, xb_0, xb_1, reduceIte, one0, Option.isNone_none, ne_eq, not_true_eq_false, not_false_eq_true, if_true, if_false, ite_not, Bool.true_and, Bool.and_true]
                  rw [bq_83_113, bq_83_122]
                  rfl
                · unfold adel1
                  rw [k0]
                  rfl
              · obtain ⟨M2, ow2, ll2, pk2, e2, H2, s2⟩ := R_move (T0 := T0) (MI := MI) H1 G1 V1 J1 W1 K1 hM1 s051 hl rfl (by omega) D1 hlh ha (by omega) x44
                refine R1 (z := adel1 q1 L l) ⟨_, _, _, _, _, _, _, _, Rep_n H2 (Nat.le_succ _)⟩ s2 ?_ rfl (Or.inr up)
                rw [st78, if_neg up, bq_83_100, Option.bind_some, p0, Option.bind_some, if_neg (show ¬ q1.1 60 l = 0 from fun e => k0 ((e60 0 (by decide)).mp e)), bq_83_116, hX1, cond_true, e2]
                simp (decide := true) (disch := omega) only [Option.bind_some, xasI, xasL, xasR, xin_t, cond_true, cond_false, nI_clamp, k_0, k_1, k_2, k_3, k_4, k_5, k_6, k_40, k_60, k_500, k_10000, pk_mul, nI_add, nI_e0, nI_ee, nI_leI, nI_ltI, xbool0, xbool1, xbn0, xbn1, xb_0, xb_1, reduceIte, one0, Option.isNone_none, ne_eq, not_true_eq_false, not_false_eq_true, if_true, if_false, ite_not, Bool.true_and, Bool.and_true]
                rw [bq_83_122]
                rfl
      · obtain ⟨M', e, h, s⟩ := P_ref (MI := MI) (i := 6) (x := Int32.ofInt (-6)) HE B (by decide) rfl
        rw [if_neg cr, tI_f (by omega), if_pos rfl]
        refine ⟨M', ow, ?_, h, rw0 s⟩
        simp (decide := true) (disch := omega) only [Option.bind_some, xasI, xasL, xasR, xin_t, cond_true, cond_false, nI_clamp, k_0, k_1, k_2, k_3, k_4, k_5, k_6, k_40, k_60, k_500, k_10000, pk_mul, nI_add, nI_e0, nI_ee, nI_leI, nI_ltI, xbool0, xbool1, xbn0, xbn1, xb_0, xb_1, reduceIte, one0, Option.isNone_none, ne_eq, not_true_eq_false, not_false_eq_true, if_true, if_false, ite_not, Bool.true_and, Bool.and_true, bq_83_38, hX, e, bq_83_44]
    · obtain ⟨M', e, h, s⟩ := P_ref (MI := MI) (i := 5) (x := Int32.ofInt (-5)) HE B (by decide) rfl
      rw [if_neg c75, if_neg c75]
      refine ⟨M', ow, ?_, h, rw0 s⟩
      simp (decide := true) (disch := omega) only [Option.bind_some, xasI, xasL, xasR, xin_t, cond_true, cond_false, nI_clamp, k_0, k_1, k_2, k_3, k_4, k_5, k_6, k_40, k_60, k_500, k_10000, pk_mul, nI_add, nI_e0, nI_ee, nI_leI, nI_ltI, xbool0, xbool1, xbn0, xbn1, xb_0, xb_1, reduceIte, one0, Option.isNone_none, ne_eq, not_true_eq_false, not_false_eq_true, if_true, if_false, ite_not, Bool.true_and, Bool.and_true, bq_83_23, hX, e, bq_83_29]
