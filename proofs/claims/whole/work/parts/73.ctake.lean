/-! take, startTaking, startsAnew, receive -/
/-- a Letter, as a holding sees it -/
def isLet (M : xM) (l : Nat) (e at_ pt : Int32) : Prop := xgetI M l 6 4 = some e ∧ xgetI M l 6 6 = some at_ ∧ xgetI M l 6 7 = some pt
theorem get_f {P : Nat × Nat → Prop} {x y : Nat} {ow ow' : xOw} {M M' : xM} {l c k : Nat} (hs : stp P x y ow M ow' M') (hl : l < M.1) (hP : P (ow l)) : xgetI M' l c k = xgetI M l c k ∧ xgetR M' l c k = xgetR M l c k ∧ xgetL M' l c k = xgetL M l c k ∧ xcls M' l c = xcls M l c := by
  have e := (hs.2.2.2 l hl).2 hP
  unfold xgetI xgetR xgetL xgetV xcls
  rw [e]
  exact ⟨rfl, rfl, rfl, rfl⟩
theorem isLet_f {P : Nat × Nat → Prop} {x y : Nat} {ow ow' : xOw} {M M' : xM} {l : Nat} {e at_ pt : Int32} (h : isLet M l e at_ pt) (hs : stp P x y ow M ow' M') (hl : l < M.1) (hP : P (ow l)) : isLet M' l e at_ pt := ⟨(get_f hs hl hP).1.trans h.1, (get_f hs hl hP).1.trans h.2.1, (get_f hs hl hP).1.trans h.2.2⟩
theorem c_take_l {T0 MI g g' a ra ka sa p : Nat} {ow : xOw} {h : Nat → Int32} {sn : Option Nat} {K : Nat → KW} {S : List Int32} {lo hi : Int32} {ps : PW} {kp : Option Nat} (hg : g ≠ g') : ∀ m i, i + m = ps.length → ∀ (M : xM) (R : RW), oHA M ow g a ra ka sa h sn R K S → oParc M ow g' p lo hi (nI ps.length) ps kp → ∃ M' i', xZ T0 MI 25 2 [some (vr (some a)), some (vr (some p)), some (vi (nI i))] [] M = xZ T0 MI 25 62 [some (vr (some a)), some (vr (some p)), some (vi i')] [] M' ∧ oHA M' ow g a ra ka sa h sn ((ps.drop i).foldl tkP R) K S ∧ oParc M' ow g' p lo hi (nI ps.length) ps kp ∧ stp (off g) 0 0 ow M ow M' := by
  intro m
  induction m with
  | zero =>
    intro i hi M R H hp
    have hl3 : ps.length ≤ 3 := by
      obtain ⟨_, _, _, _, _, _, _, _, _, _, q, _⟩ := hp
      exact q
    refine ⟨M, nI i, ?_, ?_, hp, stp_rf _ _ _⟩
    · rw [bq_25_2, Option.bind_some, (oP_c hp).2.2.2.1, Option.bind_some, if_pos (by rw [nI_leI (by omega) (by omega)]; omega)]
    · rw [List.drop_eq_nil_of_le (by omega)]
      exact H
  | succ m ih =>
    intro i hi M R H hp
    have hp' := hp
    obtain ⟨ka', ta, va, f, t, w, h1, h2, h3, h4, hl3, h6, -⟩ := hp'
    have hii : i < ps.length := by omega
    have el := h6 i hii
    have r1 : xaI M ka' (nI i) = some (f i) := by rw [aI h2, xin_t (by omega) (by omega), nI_clamp (by omega)]; rfl
    have r2 : xaZ M ta (nI i) = some (t i) := by rw [aZ h3, xin_t (by omega) (by omega), nI_clamp (by omega)]; rfl
    have r3 : xaL M va (nI i) = some (w i) := by rw [aL h4, xin_t (by omega) (by omega), nI_clamp (by omega)]; rfl
    have st : xZ T0 MI 25 2 [some (vr (some a)), some (vr (some p)), some (vi (nI i))] [] M = if t i = 0 then xZ T0 MI 25 42 [some (vr (some a)), some (vr (some p)), some (vi (nI i))] [] M else xZ T0 MI 25 19 [some (vr (some a)), some (vr (some p)), some (vi (nI i))] [] M := by
      rw [bq_25_2, Option.bind_some, (oP_c hp).2.2.2.1, Option.bind_some, if_neg (by rw [nI_leI (by omega) (by omega)]; omega), bq_25_10, Option.bind_some, gR h1 4 rfl, Option.bind_some, Option.bind_some, r2, Option.bind_some]
    rw [st, drop_s _ hii, List.foldl_cons, el]
    by_cases e0 : t i = 0
    · rw [if_pos e0, tkP_d e0]
      obtain ⟨M1, e1, k1, s1⟩ := oR_drop (T0 := T0) (MI := MI) (key := f i) (o2 := none) (o3 := none) H.2.2.2.1
      have H1 := hA_rows H k1 s1
      have p1 := oParc_f hp s1 (fun t ht e => hg (e.1.symm.trans ht.1))
      obtain ⟨M2, i', e2, H2, p2, s2⟩ := ih (i + 1) (by omega) M1 _ H1 p1
      refine ⟨M2, i', ?_, H2, p2, stp_tr (off_r s1) s2⟩
      rw [bq_25_42, hA_4 H, Option.bind_some, Option.bind_some, gR h1 3 rfl, Option.bind_some, Option.bind_some, r1, Option.bind_some, Option.bind_some, oR_cls H.2.2.2.1, cond_true, e1]
      simp (decide := true) (disch := omega) only [Option.bind_some, xasI, xasL, xasR, xin_t, cond_true, cond_false, nI_clamp, k_0, k_1, k_2, k_3, k_4, k_5, k_6, k_40, k_60, k_500, k_10000, pk_mul, nI_add, nI_e0, nI_ee, nI_leI, nI_ltI, xbool0, xbool1, xbn0, xbn1, xb_0, xb_1, reduceIte, one0, Option.isNone_none, ne_eq, not_true_eq_false, not_false_eq_true, if_true, if_false, ite_not, Bool.true_and, Bool.and_true]
      rw [bq_25_55, bq_25_56, nI_s, e2]
    · rw [if_neg e0, tkP_p e0]
      obtain ⟨M1, e1, k1, s1⟩ := oR_put (T0 := T0) (MI := MI) (key := f i) (v := w i) (o3 := none) (o4 := none) H.2.2.2.1
      have H1 := hA_rows H k1 s1
      have p1 := oParc_f hp s1 (fun t ht e => hg (e.1.symm.trans ht.1))
      obtain ⟨M2, i', e2, H2, p2, s2⟩ := ih (i + 1) (by omega) M1 _ H1 p1
      refine ⟨M2, i', ?_, H2, p2, stp_tr (off_r s1) s2⟩
      rw [bq_25_19, hA_4 H, Option.bind_some, Option.bind_some, gR h1 3 rfl, Option.bind_some, Option.bind_some, r1, Option.bind_some, Option.bind_some, gR h1 5 rfl, Option.bind_some, Option.bind_some, r3, Option.bind_some, Option.bind_some, oR_cls H.2.2.2.1, cond_true, e1]
      simp (decide := true) (disch := omega) only [Option.bind_some, xasI, xasL, xasR, xin_t, cond_true, cond_false, nI_clamp, k_0, k_1, k_2, k_3, k_4, k_5, k_6, k_40, k_60, k_500, k_10000, pk_mul, nI_add, nI_e0, nI_ee, nI_leI, nI_ltI, xbool0, xbool1, xbn0, xbn1, xb_0, xb_1, reduceIte, one0, Option.isNone_none, ne_eq, not_true_eq_false, not_false_eq_true, if_true, if_false, ite_not, Bool.true_and, Bool.and_true]
      rw [bq_25_38, bq_25_56, nI_s, e2]
/-- what a PART bears: rows, or at the END what is kept -/
def isPar (M : xM) (ow : xOw) (g p : Nat) (lo hi n : Int32) (ps : PW) (K : Nat → KW) : Prop := (n = nI ps.length ∧ ∃ kp, oParc M ow g p lo hi n ps kp) ∨ (n = Int32.ofInt (-1) ∧ ps = [] ∧ ∃ kk, oParc M ow g p lo hi n [] (some kk) ∧ oKept M ow g kk K)
theorem isPar_f {P : Nat × Nat → Prop} {x y : Nat} {ow ow' : xOw} {M M' : xM} {g p : Nat} {lo hi n : Int32} {ps : PW} {K : Nat → KW} (h : isPar M ow g p lo hi n ps K) (hs : stp P x y ow M ow' M') (hP : ∀ t : Nat × Nat, t.1 = g → P t) : isPar M' ow' g p lo hi n ps K := by
  rcases h with ⟨h1, kp, h2⟩ | ⟨h1, h2, kk, h3, h4⟩
  · exact Or.inl ⟨h1, kp, oParc_f h2 hs (fun t ht => hP t ht.1)⟩
  · exact Or.inr ⟨h1, h2, kk, oParc_f h3 hs (fun t ht => hP t ht.1), oKept_f h4 hs (fun t ht => hP t ht.1)⟩
theorem isPar_c {M : xM} {ow : xOw} {g p : Nat} {lo hi n : Int32} {ps : PW} {K : Nat → KW} (h : isPar M ow g p lo hi n ps K) : xgetI M p 8 0 = some lo ∧ xgetI M p 8 1 = some hi ∧ xgetI M p 8 2 = some n ∧ ps.length ≤ 3 ∧ ow p = (g, 0) ∧ p < M.1 := by
  rcases h with ⟨h1, kp, h2⟩ | ⟨h1, h2, kk, h3, h4⟩
  · have c := oP_c h2
    obtain ⟨_, _, _, _, _, _, _, _, _, _, q, _, o, b, _⟩ := h2
    exact ⟨c.2.1, c.2.2.1, c.2.2.2.1, q, o.1, b⟩
  · have c := oP_c h3
    obtain ⟨_, _, _, _, _, _, _, _, _, _, q, _, o, b, _⟩ := h3
    exact ⟨c.2.1, c.2.2.1, c.2.2.2.1, by rw [h2]; simp, o.1, b⟩
theorem c_take {T0 MI : Nat} {ow : xOw} {M : xM} {g g' a ra ka sa p : Nat} {h : Nat → Int32} {sn : Option Nat} {R : RW} {K K' : Nat → KW} {S : List Int32} {lo hi n : Int32} {ps : PW} {o2 : Option xV} (hg : g ≠ g') (H : oHA M ow g a ra ka sa h sn R K S) (hp : isPar M ow g' p lo hi n ps K') : ∃ M', xZ T0 MI 25 0 [some (vr (some a)), some (vr (some p)), o2] [] M = some (none, M') ∧ (if n = Int32.ofInt (-1) then oHA M' ow g a ra ka sa (upd (upd h 10 (h 10 + nI 1)) 0 (nI 5)) sn R K' S else oHA M' ow g a ra ka sa (upd h 10 (h 10 + nI 1)) sn (ps.foldl tkP R) K S) ∧ stp (off g) 0 0 ow M ow M' := by
  rcases hp with ⟨h1, kp, hp⟩ | ⟨h1, h2, kk, hp, hk⟩
  · have hl3 : ps.length ≤ 3 := by
      obtain ⟨_, _, _, _, _, _, _, _, _, _, q, _⟩ := hp
      exact q
    subst h1
    have n1 : ¬ nI ps.length = Int32.ofInt (-1) := by
      intro e
      have : ¬ nI ps.length < 0 := nI_pos (by omega)
      rw [e] at this
      exact this (by decide)
    obtain ⟨M1, i', e1, H1, p1, s1⟩ := c_take_l (T0 := T0) (MI := MI) hg ps.length 0 (by omega) M R H hp
    rw [List.drop_zero] at H1
    obtain ⟨M2, e2, H2, s2⟩ := hA_i H1 10 (h 10 + nI 1) (by simp)
    have p2 := oParc_f p1 s2 (fun t ht e => hg (by rw [e] at ht; exact ht.1))
    refine ⟨M2, ?_, by rw [if_neg n1]; exact H2, stp_tr s1 (off_0 s2)⟩
    rw [bq_25_0, k_0, e1, bq_25_62, hA_g H1 10 (by simp), Option.bind_some, k_1, e2, Option.bind_some, Option.bind_some, (oP_c p2).2.2.2.1, Option.bind_some, if_neg n1, bq_25_103]
  · subst h1
    have st : xZ T0 MI 25 0 [some (vr (some a)), some (vr (some p)), o2] [] M = xZ T0 MI 25 62 [some (vr (some a)), some (vr (some p)), some (vi (nI 0))] [] M := by
      rw [bq_25_0, k_0, bq_25_2, Option.bind_some, (oP_c hp).2.2.2.1, Option.bind_some, if_pos (by decide)]
    obtain ⟨M2, e2, H2, s2⟩ := hA_i H 10 (h 10 + nI 1) (by simp)
    have p2 := oParc_f hp s2 (fun t ht e => hg (by rw [e] at ht; exact ht.1))
    have k2 := oKept_f hk s2 (fun t ht e => hg (by rw [e] at ht; exact ht.1))
    obtain ⟨M3, e3, k3, s3⟩ := oK_become (T0 := T0) (MI := MI) H2.2.2.2.2.1 k2 hg
    have H3 := hA_kept H2 k3 s3
    obtain ⟨M4, e4, H4, s4⟩ := hA_i H3 0 (nI 5) (by simp)
    refine ⟨M4, ?_, by rw [if_pos rfl]; exact H4, stp_tr (stp_tr (off_0 s2) (off_r s3)) (off_0 s4)⟩
    rw [st, bq_25_62, hA_g H 10 (by simp), Option.bind_some, k_1, e2, Option.bind_some, Option.bind_some, (oP_c p2).2.2.2.1, Option.bind_some, if_pos rfl, bq_25_80, Option.bind_some, (oP_c p2).2.2.2.2, Option.bind_some]
    show xZ T0 MI 25 87 [some (vr (some a)), some (vr (some p)), some (vi (nI 0))] [] M2 = _
    rw [bq_25_87, hA_5 H2, Option.bind_some, Option.bind_some, (oP_c p2).2.2.2.2, Option.bind_some, Option.bind_some, oK_cls H2.2.2.2.2.1, cond_true, e3]
    simp (decide := true) (disch := omega) only [Option.bind_some, xasI, xasL, xasR, xin_t, cond_true, cond_false, nI_clamp, k_0, k_1, k_2, k_3, k_4, k_5, k_6, k_40, k_60, k_500, k_10000, pk_mul, nI_add, nI_e0, nI_ee, nI_leI, nI_ltI, xbool0, xbool1, xbn0, xbn1, xb_0, xb_1, reduceIte, one0, Option.isNone_none, ne_eq, not_true_eq_false, not_false_eq_true, if_true, if_false, ite_not, Bool.true_and, Bool.and_true]
    rw [bq_25_98, k_5, e4, Option.bind_some, bq_25_103]
/-! startTaking -/
theorem c_stk {T0 MI : Nat} {ow : xOw} {M : xM} {g g' a ra ka sa p l : Nat} {h : Nat → Int32} {sn : Option Nat} {R : RW} {K K' : Nat → KW} {S : List Int32} {lo hi n e at_ pt : Int32} {ps : PW} (hg : g ≠ g') (H : oHA M ow g a ra ka sa h sn R K S) (hp : isPar M ow g' p lo hi n ps K') (hl : isLet M l e at_ pt) (bl : l < M.1) (ol : (ow l).1 ≠ g) : ∃ M', xZ T0 MI 24 0 [some (vr (some a)), some (vr (some l)), some (vr (some p))] [] M = some (none, M') ∧ oHA M' ow g a ra ka sa (upd (upd (upd (upd (upd (upd (upd (upd (upd (upd h 0 (nI 0)) 12 (nI 0)) 0 (nI 4)) 1 lo) 2 hi) 3 e) 9 at_) 10 (nI 0)) 6 e) 7 at_) none [] (fun _ => []) [] ∧ stp (off g) 0 0 ow M ow M' := by
  obtain ⟨M1, e1, H1, s1⟩ := c_beN (T0 := T0) (MI := MI) H
  have gp : g' ≠ g := Ne.symm hg
  have pp : ∀ {x y : Nat} {A B : xM}, stp (off g) x y ow A ow B → isPar A ow g' p lo hi n ps K' → isPar B ow g' p lo hi n ps K' := fun hs h => isPar_f h hs (fun t ht e => gp (ht.symm.trans e))
  have ll : ∀ {x y : Nat} {A B : xM}, stp (off g) x y ow A ow B → l < A.1 → isLet A l e at_ pt → isLet B l e at_ pt ∧ l < B.1 := fun hs hb h => ⟨isLet_f h hs hb ol, by have := hs.1; omega⟩
  have p1 := pp s1 hp
  have l1 := ll s1 bl hl
  obtain ⟨M2, e2, H2, s2⟩ := hA_i H1 0 (nI 4) (by simp)
  have p2 := pp (off_0 s2) p1
  have l2 := ll (off_0 s2) l1.2 l1.1
  obtain ⟨M3, e3, H3, s3⟩ := hA_i H2 1 lo (by simp)
  have p3 := pp (off_0 s3) p2
  have l3 := ll (off_0 s3) l2.2 l2.1
  obtain ⟨M4, e4, H4, s4⟩ := hA_i H3 2 hi (by simp)
  have l4 := ll (off_0 s4) l3.2 l3.1
  obtain ⟨M5, e5, H5, s5⟩ := hA_i H4 3 e (by simp)
  have l5 := ll (off_0 s5) l4.2 l4.1
  obtain ⟨M6, e6, H6, s6⟩ := hA_i H5 9 at_ (by simp)
  have l6 := ll (off_0 s6) l5.2 l5.1
  obtain ⟨M7, e7, H7, s7⟩ := hA_i H6 10 (nI 0) (by simp)
  have l7 := ll (off_0 s7) l6.2 l6.1
  obtain ⟨M8, e8, H8, s8⟩ := hA_i H7 6 e (by simp)
  have l8 := ll (off_0 s8) l7.2 l7.1
  obtain ⟨M9, e9, H9, s9⟩ := hA_i H8 7 at_ (by simp)
  refine ⟨M9, ?_, H9, stp_tr (stp_tr (stp_tr (stp_tr (stp_tr (stp_tr (stp_tr (stp_tr s1 (off_0 s2)) (off_0 s3)) (off_0 s4)) (off_0 s5)) (off_0 s6)) (off_0 s7)) (off_0 s8)) (off_0 s9)⟩
  rw [bq_24_0, hA_c H, cond_true, e1]
  simp (decide := true) (disch := omega) only [Option.bind_some, xasI, xasL, xasR, xin_t, cond_true, cond_false, nI_clamp, k_0, k_1, k_2, k_3, k_4, k_5, k_6, k_40, k_60, k_500, k_10000, pk_mul, nI_add, nI_e0, nI_ee, nI_leI, nI_ltI, xbool0, xbool1, xbn0, xbn1, xb_0, xb_1, reduceIte, one0, Option.isNone_none, ne_eq, not_true_eq_false, not_false_eq_true, if_true, if_false, ite_not, Bool.true_and, Bool.and_true]
  rw [bq_24_4, k_4, e2, Option.bind_some, Option.bind_some, (isPar_c p2).1, Option.bind_some, e3, Option.bind_some, Option.bind_some, (isPar_c p3).2.1, Option.bind_some, e4, Option.bind_some, Option.bind_some, l4.1.1, Option.bind_some, e5, Option.bind_some, Option.bind_some, l5.1.2.1, Option.bind_some, e6, Option.bind_some, k_0, e7, Option.bind_some, Option.bind_some, l7.1.1, Option.bind_some, e8, Option.bind_some, Option.bind_some, l8.1.2.1, Option.bind_some, e9, Option.bind_some]
/-! startsAnew -/
abbrev anewC (h : Nat → Int32) (e at_ pt : Int32) : Prop := ¬ (h 0 = nI 1 ∨ h 0 = nI 2 ∨ h 0 = nI 3) ∧ pt = 0 ∧ (h 6 < e ∨ e = h 6 ∧ h 7 < at_)
theorem c_anew {T0 MI : Nat} {ow : xOw} {M : xM} {g a ra ka sa l : Nat} {h : Nat → Int32} {sn : Option Nat} {R : RW} {K : Nat → KW} {S : List Int32} {e at_ pt : Int32} {o2 : Option xV} (H : oHA M ow g a ra ka sa h sn R K S) (hl : isLet M l e at_ pt) : xZ T0 MI 23 0 [some (vr (some a)), some (vr (some l)), o2] [] M = some (some (vi (tI (anewC h e at_ pt))), M) := by
  have st : ∀ b : Bool, xZ T0 MI 23 38 [some (vr (some a)), some (vr (some l)), o2] [vi (zI b)] M = some (some (vi (tI (¬ (h 0 = nI 1 ∨ h 0 = nI 2 ∨ h 0 = nI 3) ∧ pt = 0 ∧ b = true))), M) := by
    intro b
    rw [bq_23_38, hA_c H, cond_true, c_isHome (hA_g H 0 (by simp)) (hA_c H)]
    by_cases a1 : h 0 = nI 1 ∨ h 0 = nI 2 ∨ h 0 = nI 3
    · rw [tI_t a1, tI_f (fun h => h.1 a1)]
      simp (decide := true) (disch := omega) only [bq_23_43, bq_23_61, bq_23_62, Option.bind_some, xasI, xasL, xasR, xin_t, cond_true, cond_false, nI_clamp, k_0, k_1, k_2, k_3, k_4, k_5, k_6, k_40, k_60, k_500, k_10000, pk_mul, nI_add, nI_e0, nI_ee, nI_leI, nI_ltI, xbool0, xbool1, xbn0, xbn1, xb_0, xb_1, reduceIte, one0, Option.isNone_none, ne_eq, not_true_eq_false, not_false_eq_true, if_true, if_false, ite_not, Bool.true_and, Bool.and_true]
      rfl
    · rw [tI_f a1]
      simp (decide := true) (disch := omega) only [bq_23_43, Option.bind_some, xasI, xasL, xasR, xin_t, cond_true, cond_false, nI_clamp, k_0, k_1, k_2, k_3, k_4, k_5, k_6, k_40, k_60, k_500, k_10000, pk_mul, nI_add, nI_e0, nI_ee, nI_leI, nI_ltI, xbool0, xbool1, xbn0, xbn1, xb_0, xb_1, reduceIte, one0, Option.isNone_none, ne_eq, not_true_eq_false, not_false_eq_true, if_true, if_false, ite_not, Bool.true_and, Bool.and_true]
      rw [bq_23_46, Option.bind_some, hl.2.2, Option.bind_some]
      by_cases a2 : pt = 0
      · rw [if_pos a2, bq_23_53]
        cases b with
        | true => rw [zI_t, if_neg (by decide), bq_23_57, bq_23_62, tI_t ⟨a1, a2, rfl⟩]; rfl
        | false => rw [zI_f, if_pos rfl, bq_23_61, bq_23_62, tI_f (fun h => by cases h.2.2)]; rfl
      · rw [if_neg a2, bq_23_61, bq_23_62, tI_f (fun h => a2 h.2.1)]; rfl
  have g6 := hA_g H 6 (by simp)
  have g7 := hA_g H 7 (by simp)
  rw [bq_23_0, Option.bind_some, hl.1, Option.bind_some, g6, Option.bind_some]
  by_cases a1 : h 6 < e
  · rw [if_pos a1, bq_23_33, show Int32.ofInt 1 = zI true from rfl, st true]
    congr 4
    exact tI_c ⟨fun h => ⟨h.1, h.2.1, Or.inl a1⟩, fun h => ⟨h.1, h.2.1, rfl⟩⟩
  · rw [if_neg a1, bq_23_11, Option.bind_some, hl.1, Option.bind_some, g6, Option.bind_some]
    by_cases a2 : e = h 6
    · rw [if_pos a2, bq_23_22, Option.bind_some, hl.2.1, Option.bind_some, g7, Option.bind_some]
      by_cases a3 : at_ ≤ h 7
      · rw [if_pos a3, bq_23_37, show Int32.ofInt 0 = zI false from rfl, st false]
        congr 4
        exact tI_c ⟨fun h => (by cases h.2.2), fun h => h.2.2.elim (fun h => absurd h a1) (fun h => absurd h.2 (Int32.not_lt.mpr a3))⟩
      · rw [if_neg a3, bq_23_33, show Int32.ofInt 1 = zI true from rfl, st true]
        congr 4
        exact tI_c ⟨fun h => ⟨h.1, h.2.1, Or.inr ⟨a2, Int32.not_le.mp a3⟩⟩, fun h => ⟨h.1, h.2.1, rfl⟩⟩
    · rw [if_neg a2, bq_23_37, show Int32.ofInt 0 = zI false from rfl, st false]
      congr 4
      exact tI_c ⟨fun h => (by cases h.2.2), fun h => h.2.2.elim (fun h => absurd h a1) (fun h => absurd h.1 a2)⟩
