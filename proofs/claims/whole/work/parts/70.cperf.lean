/-! Holding.perform -/
/-- an Ask, as perform sees it -/
def isAsk (M : xM) (q n kind : Nat) (key : Int32) (v w : Int64) : Prop := ∃ x y z t, M.2.2 q = .inr (0, [vi (nI n), vi (nI kind), vi key, vl v, vl w, vi x, vl y, vi z, vi t])
theorem isAsk_f {P : Nat × Nat → Prop} {x y : Nat} {ow ow' : xOw} {M M' : xM} {q n kind : Nat} {key : Int32} {v w : Int64} (h : isAsk M q n kind key v w) (hs : stp P x y ow M ow' M') (hq : q < M.1) (hP : P (ow q)) : isAsk M' q n kind key v w := by
  obtain ⟨x, y, z, t, h⟩ := h
  exact ⟨x, y, z, t, by rw [(hs.2.2.2 q hq).2 hP]; exact h⟩
theorem isAsk_g {M : xM} {q n kind : Nat} {key : Int32} {v w : Int64} (h : isAsk M q n kind key v w) : xgetI M q 0 0 = some (nI n) ∧ xgetI M q 0 1 = some (nI kind) ∧ xgetI M q 0 2 = some key ∧ xgetL M q 0 3 = some v ∧ xgetL M q 0 4 = some w := by
  obtain ⟨x, y, z, t, h⟩ := h
  exact ⟨gI h 0 rfl, gI h 1 rfl, gI h 2 rfl, gL h 3 rfl, gL h 4 rfl⟩
/-- from pc 211 on: to be sent, kept -/
theorem c_pf_t {T0 MI : Nat} {ow : xOw} {M : xM} {g a ra ka sa c q n kind : Nat} {h : Nat → Int32} {sn : Option Nat} {R : RW} {K : Nat → KW} {S : List Int32} {key sign : Int32} {v w val : Int64} {b : Bool} {o3 o5 o8 o9 : Option xV} (H : oHA M ow g a ra ka sa h sn R K S) (hq : isAsk M q n kind key v w) (bq : q < M.1) (og : (ow q).1 ≠ g) (hc : c < 6) (ha : h 0 = nI 2 → (addK S key).length < 500) : ∃ M' ow', xZ T0 MI 18 211 [some (vr (some a)), some (vi (nI c)), some (vr (some q)), o3, some (vl val), o5, some (vi sign), some (vi (zI b)), o8, o9] [] M = some (none, M') ∧ oHA M' ow' g a ra ka sa h sn R (va_up K c (keepL (K c) (nI n, val, sign))) (if b = true ∧ h 0 = nI 2 then addK S key else S) ∧ stp (off g) 1 1000 ow M ow' M' := by
  have keep : ∀ (M1 : xM) (ow1 : xOw) (S1 : List Int32) (o7 : Option xV), oHA M1 ow1 g a ra ka sa h sn R K S1 → isAsk M1 q n kind key v w → ∃ M', xZ T0 MI 18 235 [some (vr (some a)), some (vi (nI c)), some (vr (some q)), o3, some (vl val), o5, some (vi sign), o7, o8, o9] [] M1 = some (none, M') ∧ oHA M' ow1 g a ra ka sa h sn R (va_up K c (keepL (K c) (nI n, val, sign))) S1 ∧ stp (off g) 0 0 ow1 M1 ow1 M' := by
    intro M1 ow1 S1 o7 H1 hq1
    obtain ⟨M2, e2, k2, s2⟩ := oK_keep (T0 := T0) (MI := MI) (count := nI n) (w := val) (sign := sign) (o4 := none) (o6 := none) (o7 := none) H1.2.2.2.2.1 hc
    refine ⟨M2, ?_, hA_kept H1 k2 s2, off_r s2⟩
    rw [bq_18_235, hA_5 H1, Option.bind_some, Option.bind_some, (isAsk_g hq1).1, Option.bind_some, Option.bind_some, oK_cls H1.2.2.2.2.1, cond_true, e2]
    simp (decide := true) (disch := omega) only [bq_18_251, Option.bind_some, xasI, xasL, xasR, xin_t, cond_true, cond_false, nI_clamp, k_0, k_1, k_2, k_3, k_4, k_5, k_6, k_40, k_60, k_500, k_10000, pk_mul, nI_add, nI_e0, nI_ee, nI_leI, nI_ltI, xbool0, xbool1, xbn0, xbn1, xb_0, xb_1, reduceIte, one0, Option.isNone_none, ne_eq, not_true_eq_false, not_false_eq_true, if_true, if_false, ite_not, Bool.true_and, Bool.and_true]
  cases b with
  | false =>
    obtain ⟨M', e, H', s⟩ := keep M ow S (some (vi 0)) H hq
    refine ⟨M', ow, ?_, by rw [if_neg (by simp)]; exact H', stp_w s (fun _ h => h) (by omega) (by omega)⟩
    rw [bq_18_211, zI_f, if_pos rfl, e]
  | true =>
    by_cases e0 : h 0 = nI 2
    · obtain ⟨M1, ow1, e1, k1, s1⟩ := oS_add (T0 := T0) (MI := MI) (key := key) (o2 := none) (o3 := none) H.2.2.2.2.2 (ha e0)
      have H1 := hA_keys H k1 s1
      have hb : S.length < 500 := (oS_at H.2.2.2.2.2).choose_spec.choose_spec.choose_spec.2.2.2.2.1
      have hq1 := isAsk_f hq (off_r s1) bq og
      obtain ⟨M', e, H', s⟩ := keep M1 ow1 (addK S key) (some (vi 1)) H1 hq1
      refine ⟨M', ow1, ?_, by rw [if_pos ⟨rfl, e0⟩]; exact H', stp_w (stp_tr (off_r s1) s) (fun _ h => h) (by omega) (by omega)⟩
      rw [bq_18_211, zI_t, if_neg (by decide), bq_18_216, hA_g H 0 (by simp), Option.bind_some, e0, k_2, if_pos rfl, bq_18_224, hA_13 H, Option.bind_some, Option.bind_some, (isAsk_g hq).2.2.1, Option.bind_some, Option.bind_some, oS_cls H.2.2.2.2.2, cond_true, e1]
      simp (decide := true) (disch := omega) only [Option.bind_some, xasI, xasL, xasR, xin_t, cond_true, cond_false, nI_clamp, k_0, k_1, k_2, k_3, k_4, k_5, k_6, k_40, k_60, k_500, k_10000, pk_mul, nI_add, nI_e0, nI_ee, nI_leI, nI_ltI, xbool0, xbool1, xbn0, xbn1, xb_0, xb_1, reduceIte, one0, Option.isNone_none, ne_eq, not_true_eq_false, not_false_eq_true, if_true, if_false, ite_not, Bool.true_and, Bool.and_true, e]
    · obtain ⟨M', e, H', s⟩ := keep M ow S (some (vi 1)) H hq
      refine ⟨M', ow, ?_, by rw [if_neg (fun h => e0 h.2)]; exact H', stp_w s (fun _ h => h) (by omega) (by omega)⟩
      rw [bq_18_211, zI_t, if_neg (by decide), bq_18_216, hA_g H 0 (by simp), Option.bind_some, k_2, if_neg e0, e]
theorem putL_no {R : RW} {key : Int32} {v : Int64} (h : (putL R key v).1 = false) : (putL R key v).2 = R ∧ lkp Prod.fst key R = none := by
  unfold putL at h ⊢
  cases hl : lkp Prod.fst key R with
  | some x => rw [hl] at h; cases h
  | none =>
    rw [hl] at h
    dsimp only at h ⊢
    by_cases e : R.length = 60
    · rw [if_pos e]; exact ⟨rfl, rfl⟩
    · rw [if_neg e] at h; cases h
theorem c_perform {T0 MI : Nat} {ow : xOw} {M : xM} {g a ra ka sa c q n kind : Nat} {h : Nat → Int32} {sn : Option Nat} {R : RW} {K : Nat → KW} {S : List Int32} {key : Int32} {v w : Int64} {o3 o4 o5 o6 o7 o8 o9 : Option xV} (H : oHA M ow g a ra ka sa h sn R K S) (hq : isAsk M q n kind key v w) (bq : q < M.1) (og : (ow q).1 ≠ g) (hc : c < 6) (hk5 : kind < 5) (ha : h 0 = nI 2 → (addK S key).length < 500) : ∃ M' ow', xZ T0 MI 18 0 [some (vr (some a)), some (vi (nI c)), some (vr (some q)), o3, o4, o5, o6, o7, o8, o9] [] M = some (none, M') ∧ oHA M' ow' g a ra ka sa h sn (doA R kind key v w).1 (va_up K c (keepL (K c) (nI n, (doA R kind key v w).2.1, (doA R kind key v w).2.2.1))) (if (doA R kind key v w).2.2.2 = true ∧ h 0 = nI 2 then addK S key else S) ∧ stp (off g) 1 1000 ow M ow' M' := by
  obtain ⟨g0, g1, g2, g3, g4⟩ := isAsk_g hq
  obtain ⟨x, ex, hx⟩ := oR_find (T0 := T0) (MI := MI) (key := key) (o2 := none) H.2.2.2.1
  have ev := oR_value (T0 := T0) (MI := MI) (key := key) (o2 := none) H.2.2.2.1
  generalize hthere : (lkp Prod.fst key R).isSome = there at hx
  generalize hval : lkv (lkp Prod.fst key R) = val at ev
  -- up to the kinds
  have st : ∀ o6 o7, xZ T0 MI 18 0 [some (vr (some a)), some (vi (nI c)), some (vr (some q)), o3, o4, o5, o6, o7, o8, o9] [] M = xZ T0 MI 18 42 [some (vr (some a)), some (vi (nI c)), some (vr (some q)), some (vi (zI there)), some (vl val), none, o6, o7, o8, o9] [vi (zI there)] M := by
    intro o6 o7
    have s1 : xZ T0 MI 18 0 [some (vr (some a)), some (vi (nI c)), some (vr (some q)), o3, o4, o5, o6, o7, o8, o9] [] M = xZ T0 MI 18 19 [some (vr (some a)), some (vi (nI c)), some (vr (some q)), o3, o4, o5, o6, o7, o8, o9] [vi (zI there)] M := by
      rw [bq_18_0, hA_4 H, Option.bind_some, Option.bind_some, g2, Option.bind_some, Option.bind_some, oR_cls H.2.2.2.1, cond_true, ex]
      simp (decide := true) (disch := omega) only [Option.bind_some, xasI, xasL, xasR, xin_t, cond_true, cond_false, nI_clamp, k_0, k_1, k_2, k_3, k_4, k_5, k_6, k_40, k_60, k_500, k_10000, pk_mul, nI_add, nI_e0, nI_ee, nI_leI, nI_ltI, xbool0, xbool1, xbn0, xbn1, xb_0, xb_1, reduceIte, one0, Option.isNone_none, ne_eq, not_true_eq_false, not_false_eq_true, if_true, if_false, ite_not, Bool.true_and, Bool.and_true]
      rw [bq_18_11]
      cases there with
      | true => rw [if_neg (fun e => absurd (hx.mp e) (by decide)), bq_18_14]; rfl
      | false => rw [if_pos (hx.mpr rfl), bq_18_18]; rfl
    rw [s1, bq_18_19, hA_4 H, Option.bind_some, Option.bind_some, g2, Option.bind_some, Option.bind_some, oR_cls H.2.2.2.1, cond_true, ev]
    simp (decide := true) (disch := omega) only [Option.bind_some, xasI, xasL, xasR, xin_t, cond_true, cond_false, nI_clamp, k_0, k_1, k_2, k_3, k_4, k_5, k_6, k_40, k_60, k_500, k_10000, pk_mul, nI_add, nI_e0, nI_ee, nI_leI, nI_ltI, xbool0, xbool1, xbn0, xbn1, xb_0, xb_1, reduceIte, one0, Option.isNone_none, ne_eq, not_true_eq_false, not_false_eq_true, if_true, if_false, ite_not, Bool.true_and, Bool.and_true]
    rw [bq_18_31]
    cases there with
    | true => rw [zI_t, if_neg (by decide), bq_18_37]; rfl
    | false => rw [zI_f, if_pos rfl, bq_18_41]; rfl
  rw [st]
  -- put, with its ask still there
  have put : ∀ (nv : Int64), ∃ M1, xZ T0 MI 56 0 [some (vr (some ra)), some (vi key), some (vl nv), none, none] [] M = some (some (vi (zI (putL R key nv).1)), M1) ∧ oHA M1 ow g a ra ka sa h sn (putL R key nv).2 K S ∧ isAsk M1 q n kind key v w ∧ q < M1.1 ∧ stp (off g) 0 0 ow M ow M1 := by
    intro nv
    obtain ⟨M1, e1, r1, s1⟩ := oR_put (T0 := T0) (MI := MI) (key := key) (v := nv) (o3 := none) (o4 := none) H.2.2.2.1
    exact ⟨M1, e1, hA_rows H r1 s1, isAsk_f hq (off_r s1) bq og, by have := s1.1; omega, off_r s1⟩
  -- WRITE and ADD from 85 on
  have wa : ∀ (nv : Int64) (o3 o5 o7 : Option xV) (kk : Int32), kk = nI kind → ∃ M1 z5, xZ T0 MI 18 85 [some (vr (some a)), some (vi (nI c)), some (vr (some q)), o3, some (vl val), o5, some (vi (zI there)), o7, o8, o9] [vl nv] M = xZ T0 MI 18 211 [some (vr (some a)), some (vi (nI c)), some (vr (some q)), (if (putL R key nv).1 = true ∧ kind = 3 then xinv o3 else o3), some (vl (if (putL R key nv).1 = true ∧ kind = 3 then nv else val)), z5, some (vi (if (putL R key nv).1 = true then zI there else nI 2)), some (vi (zI (putL R key nv).1)), some (vl nv), none] [] M1 ∧ oHA M1 ow g a ra ka sa h sn (putL R key nv).2 K S ∧ isAsk M1 q n kind key v w ∧ q < M1.1 ∧ stp (off g) 0 0 ow M ow M1 := by
    intro nv o3 o5 o7 kk hkk
    obtain ⟨M1, e1, H1, q1, b1, s1⟩ := put nv
    have gk := (isAsk_g q1).2.1
    have s2 : xZ T0 MI 18 85 [some (vr (some a)), some (vi (nI c)), some (vr (some q)), o3, some (vl val), o5, some (vi (zI there)), o7, o8, o9] [vl nv] M = xZ T0 MI 18 100 [some (vr (some a)), some (vi (nI c)), some (vr (some q)), o3, some (vl val), o5, some (vi (zI there)), xinv o7, some (vl nv), none] [vi (zI (putL R key nv).1)] M1 := by
      rw [bq_18_85, hA_4 H, Option.bind_some, Option.bind_some, g2, Option.bind_some, Option.bind_some, oR_cls H.2.2.2.1, cond_true, e1]
      simp (decide := true) (disch := omega) only [Option.bind_some, xasI, xasL, xasR, xin_t, cond_true, cond_false, nI_clamp, k_0, k_1, k_2, k_3, k_4, k_5, k_6, k_40, k_60, k_500, k_10000, pk_mul, nI_add, nI_e0, nI_ee, nI_leI, nI_ltI, xbool0, xbool1, xbn0, xbn1, xb_0, xb_1, reduceIte, one0, Option.isNone_none, ne_eq, not_true_eq_false, not_false_eq_true, if_true, if_false, ite_not, Bool.true_and, Bool.and_true]
    rw [s2, bq_18_100]
    cases hp : (putL R key nv).1 with
    | false =>
      rw [zI_f, if_pos rfl, bq_18_107, bq_18_125, k_2, if_neg (by simp), if_neg (by simp), if_neg (by simp)]
      exact ⟨M1, _, rfl, H1, q1, b1, s1⟩
    | true =>
      rw [zI_t, if_neg (by decide), bq_18_113, Option.bind_some, gk, Option.bind_some, k_3]
      by_cases e3 : kind = 3
      · rw [if_pos (by rw [e3]), bq_18_121, bq_18_125, if_pos ⟨rfl, e3⟩, if_pos ⟨rfl, e3⟩, if_pos rfl]
        exact ⟨M1, _, rfl, H1, q1, b1, s1⟩
      · rw [if_neg (by rw [nI_ee (by omega) (by omega)]; exact e3), bq_18_125, if_neg (fun h => e3 h.2), if_neg (fun h => e3 h.2), if_pos rfl]
        exact ⟨M1, _, rfl, H1, q1, b1, s1⟩
  rcases (show kind = 0 ∨ kind = 1 ∨ kind = 2 ∨ kind = 3 ∨ kind = 4 by omega) with rfl | rfl | rfl | rfl | rfl
  · -- READ
    obtain ⟨M', ow', e, H', s⟩ := c_pf_t (T0 := T0) (MI := MI) (b := false) (val := val) (sign := zI there) (o3 := some (vi (zI there))) (o5 := none) (o8 := o8) (o9 := o9) H hq bq og hc ha
    refine ⟨M', ow', ?_, ?_, s⟩
    · rw [bq_18_42, Option.bind_some, g1, Option.bind_some, k_1, if_neg (by decide), bq_18_55, Option.bind_some, g1, Option.bind_some, k_3, if_neg (by decide), bq_18_128, Option.bind_some, g1, Option.bind_some, k_2, if_neg (by decide), bq_18_152, Option.bind_some, g1, Option.bind_some, k_4, if_neg (by decide)]
      exact e
    · unfold doA
      rw [hval, hthere]
      exact H'
  · -- WRITE
    obtain ⟨M1, z5, e1, H1, q1, b1, s1⟩ := wa v (some (vi (zI there))) none (some (vi (nI 0))) (nI 1) rfl
    obtain ⟨M', ow', e, H', s⟩ := c_pf_t (T0 := T0) (MI := MI) (b := (putL R key v).1) (val := if (putL R key v).1 = true ∧ 1 = 3 then v else val) (sign := if (putL R key v).1 = true then zI there else nI 2) (o3 := if (putL R key v).1 = true ∧ 1 = 3 then xinv (some (vi (zI there))) else some (vi (zI there))) (o5 := z5) (o8 := some (vl v)) (o9 := none) H1 q1 b1 og hc ha
    refine ⟨M', ow', ?_, ?_, stp_w (stp_tr s1 s) (fun _ h => h) (by omega) (by omega)⟩
    · rw [bq_18_42, Option.bind_some, g1, Option.bind_some, k_1, if_pos rfl, bq_18_63, Option.bind_some, g1, Option.bind_some, k_3, if_neg (by decide), bq_18_81, Option.bind_some, g3, Option.bind_some]
      exact e1.trans e
    · unfold doA
      cases hp : (putL R key v).1 with
      | true =>
        rw [hp] at H'
        rw [if_neg (show ¬ (true = true ∧ 1 = 3) by omega), if_pos rfl] at H'
        show oHA M' ow' g a ra ka sa h sn (putL R key v).2 _ _
        rw [hval, hthere]
        exact H'
      | false =>
        obtain ⟨p1, p2⟩ := putL_no hp
        have v0 : val = 0 := by rw [← hval, p2]; rfl
        rw [hp] at H'
        rw [if_neg (show ¬ (false = true ∧ 1 = 3) by simp), if_neg (show ¬ (false = true) by simp), p1, v0] at H'
        exact H'
  · -- STRIKE
    obtain ⟨M1, e1, r1, s1⟩ := oR_drop (T0 := T0) (MI := MI) (key := key) (o2 := none) (o3 := none) H.2.2.2.1
    have H1 := hA_rows H r1 s1
    have q1 := isAsk_f hq (off_r s1) bq og
    obtain ⟨M', ow', e, H', s⟩ := c_pf_t (T0 := T0) (MI := MI) (b := there) (val := val) (sign := zI there) (o3 := some (vi (zI there))) (o5 := none) (o8 := o8) (o9 := o9) H1 q1 (by have := s1.1; omega) og hc ha
    refine ⟨M', ow', ?_, ?_, stp_w (stp_tr (off_r s1) s) (fun _ h => h) (by omega) (by omega)⟩
    · rw [bq_18_42, Option.bind_some, g1, Option.bind_some, k_1, if_neg (by decide), bq_18_55, Option.bind_some, g1, Option.bind_some, k_3, if_neg (by decide), bq_18_128, Option.bind_some, g1, Option.bind_some, k_2, if_pos rfl, bq_18_136, hA_4 H, Option.bind_some, Option.bind_some, g2, Option.bind_some, Option.bind_some, oR_cls H.2.2.2.1, cond_true, e1, hthere]
      simp (decide := true) (disch := omega) only [Option.bind_some, xasI, xasL, xasR, xin_t, cond_true, cond_false, nI_clamp, k_0, k_1, k_2, k_3, k_4, k_5, k_6, k_40, k_60, k_500, k_10000, pk_mul, nI_add, nI_e0, nI_ee, nI_leI, nI_ltI, xbool0, xbool1, xbn0, xbn1, xb_0, xb_1, reduceIte, one0, Option.isNone_none, ne_eq, not_true_eq_false, not_false_eq_true, if_true, if_false, ite_not, Bool.true_and, Bool.and_true]
      rw [bq_18_147]
      exact e
    · unfold doA
      rw [hval, hthere]
      exact H'
  · -- ADD
    obtain ⟨M1, z5, e1, H1, q1, b1, s1⟩ := wa (val + v) (some (vi (zI there))) none (some (vi (nI 0))) (nI 3) rfl
    obtain ⟨M', ow', e, H', s⟩ := c_pf_t (T0 := T0) (MI := MI) (b := (putL R key (val + v)).1) (val := if (putL R key (val + v)).1 = true ∧ 3 = 3 then val + v else val) (sign := if (putL R key (val + v)).1 = true then zI there else nI 2) (o3 := if (putL R key (val + v)).1 = true ∧ 3 = 3 then xinv (some (vi (zI there))) else some (vi (zI there))) (o5 := z5) (o8 := some (vl (val + v))) (o9 := none) H1 q1 b1 og hc ha
    refine ⟨M', ow', ?_, ?_, stp_w (stp_tr s1 s) (fun _ h => h) (by omega) (by omega)⟩
    · rw [bq_18_42, Option.bind_some, g1, Option.bind_some, k_1, if_neg (by decide), bq_18_55, Option.bind_some, g1, Option.bind_some, k_3, if_pos rfl, bq_18_63, Option.bind_some, g1, Option.bind_some, k_3, if_pos rfl, bq_18_71, Option.bind_some, g3, Option.bind_some]
      exact e1.trans e
    · unfold doA
      rw [hval, hthere]
      cases hp : (putL R key (val + v)).1 with
      | true =>
        rw [hp] at H'
        rw [if_pos (show true = true ∧ 3 = 3 from ⟨rfl, rfl⟩), if_pos rfl] at H'
        exact H'
      | false =>
        obtain ⟨p1, p2⟩ := putL_no hp
        have v0 : val = 0 := by rw [← hval, p2]; rfl
        rw [hp] at H'
        rw [if_neg (show ¬ (false = true ∧ 3 = 3) by simp), if_neg (show ¬ (false = true) by simp), p1, v0] at H'
        exact H'
  · -- SWAP
    have hd : xZ T0 MI 18 42 [some (vr (some a)), some (vi (nI c)), some (vr (some q)), some (vi (zI there)), some (vl val), none, o6, o7, o8, o9] [vi (zI there)] M = xZ T0 MI 18 160 [some (vr (some a)), some (vi (nI c)), some (vr (some q)), some (vi (zI there)), some (vl val), none, some (vi (zI there)), some (vi (nI 0)), o8, o9] [] M := by
      rw [bq_18_42, Option.bind_some, g1, Option.bind_some, k_1, if_neg (by decide), bq_18_55, Option.bind_some, g1, Option.bind_some, k_3, if_neg (by decide), bq_18_128, Option.bind_some, g1, Option.bind_some, k_2, if_neg (by decide), bq_18_152, Option.bind_some, g1, Option.bind_some, k_4, if_pos rfl]
      rfl
    have tail : ∀ (M1 : xM) (b : Bool) (o3 o6 o7 : Option xV), xZ T0 MI 18 197 [some (vr (some a)), some (vi (nI c)), some (vr (some q)), o3, some (vl val), none, o6, o7, o8, o9] [vi (zI b)] M1 = xZ T0 MI 18 211 [some (vr (some a)), some (vi (nI c)), some (vr (some q)), o3, some (vl val), none, some (vi (zI b)), some (vi (zI b)), o8, o9] [] M1 := by
      intro M1 b o3 o6 o7
      cases b with
      | true => rw [bq_18_197, zI_t, if_neg (by decide), bq_18_204, bq_18_209]; rfl
      | false => rw [bq_18_197, zI_f, if_pos rfl, bq_18_208, bq_18_209]; rfl
    rw [hd]
    by_cases hs : there = true ∧ val = v
    · obtain ⟨M1, e1, H1, q1, b1, s1⟩ := put w
      have hput : (putL R key w).1 = true := by
        unfold putL
        cases hh : lkp Prod.fst key R with
        | none => rw [hh] at hthere; rw [← hthere] at hs; cases hs.1
        | some y => rfl
      obtain ⟨M', ow', e, H', s⟩ := c_pf_t (T0 := T0) (MI := MI) (b := true) (val := val) (sign := zI true) (o3 := some (vi (zI there))) (o5 := none) (o8 := o8) (o9 := o9) H1 q1 b1 og hc ha
      refine ⟨M', ow', ?_, ?_, stp_w (stp_tr s1 s) (fun _ h => h) (by omega) (by omega)⟩
      · rw [bq_18_160, hs.1, zI_t, if_neg (by decide), bq_18_164, Option.bind_some, g3, Option.bind_some, if_pos (by rw [cmp_0]; exact hs.2), bq_18_174, hA_4 H, Option.bind_some, Option.bind_some, g2, Option.bind_some, Option.bind_some, g4, Option.bind_some, Option.bind_some, oR_cls H.2.2.2.1, cond_true, e1, hput]
        simp (decide := true) (disch := omega) only [Option.bind_some, xasI, xasL, xasR, xin_t, cond_true, cond_false, nI_clamp, k_0, k_1, k_2, k_3, k_4, k_5, k_6, k_40, k_60, k_500, k_10000, pk_mul, nI_add, nI_e0, nI_ee, nI_leI, nI_ltI, xbool0, xbool1, xbn0, xbn1, xb_0, xb_1, reduceIte, one0, Option.isNone_none, ne_eq, not_true_eq_false, not_false_eq_true, if_true, if_false, ite_not, Bool.true_and, Bool.and_true]
        rw [bq_18_189, zI_t, if_neg (by decide), bq_18_192, show Int32.ofInt 1 = zI true from rfl, tail]
        rw [hs.1, zI_t] at e
        exact e
      · unfold doA
        rw [hval, hthere, show (there && decide (val = v)) = true by simp [hs.1, hs.2]]
        rw [hs.2] at H'
        exact H'
    · obtain ⟨M', ow', e, H', s⟩ := c_pf_t (T0 := T0) (MI := MI) (b := false) (val := val) (sign := zI false) (o3 := some (vi (zI there))) (o5 := none) (o8 := o8) (o9 := o9) H hq bq og hc ha
      refine ⟨M', ow', ?_, ?_, s⟩
      · have no : ∀ o7, xZ T0 MI 18 196 [some (vr (some a)), some (vi (nI c)), some (vr (some q)), some (vi (zI there)), some (vl val), none, some (vi (zI there)), o7, o8, o9] [] M = some (none, M') := by
          intro o7
          rw [bq_18_196, show Int32.ofInt 0 = zI false from rfl, tail]
          exact e
        rw [bq_18_160]
        cases ht : there with
        | false => rw [zI_f, if_pos rfl]; rw [ht] at no; exact no _
        | true =>
          rw [zI_t, if_neg (by decide), bq_18_164, Option.bind_some, g3, Option.bind_some, if_neg (by rw [cmp_0]; exact fun e => hs ⟨ht, e⟩)]
          rw [ht] at no
          exact no _
      · unfold doA
        rw [hval, hthere, show (there && decide (val = v)) = false by
          cases ht : there with
          | false => rfl
          | true => simp; exact fun e => hs ⟨ht, e⟩]
        exact H'
