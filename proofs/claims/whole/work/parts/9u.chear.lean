/-! ANSWER and OLD heard -/
theorem R_hearA {T0 MI X n l c nn : Nat} {ad : Nat → Nat} {fh fp : Nat → Option Nat} {cl ll dl : List Nat} {aa : Nat → Nat} {pk : Nat → Option Nat} {q : xrho} {L : xLs} {M : xM} {ow : xOw} {o2 o3 : Option xV} (H : Rep T0 X n ad fh fp cl ll dl aa pk q L M ow) (B : bds q) (hl : l < ll.length) (h60 : q.1 60 l = nI 1) (e61 : q.1 61 l = nI c) (hc : c < nu q 45 0) (e66 : q.1 66 l = nI nn) (hn : nn < nu q 46 c) : ∃ M' ow', xZ T0 MI 109 0 [some (vr (some X)), some (vr (some ll[l])), o2, o3] [] M = some (none, M') ∧ Rep T0 X n ad fh fp cl ll dl aa pk (gheardA q l (60 * c + nn)) L M' ow' ∧ stp ext 0 0 ow M ow' M' := by
  have H4 := H.2.2.2.2.1
  have H5 := H.2.2.2.2.2.1
  have hc6 : c < 6 := by have := B.1.2; omega
  have hcl : c < cl.length := by rw [H4.1]; exact hc
  have b46 := (B.2.1 c hc6).2
  obtain ⟨⟨g0, g1, g2, g3, g4⟩, ⟨g5, -⟩, -⟩ := lt_g H hl
  rw [h60] at g0
  rw [e61] at g2
  rw [e66] at g5
  obtain ⟨lf, lv, lask, ltold, ⟨lc, -, -⟩, lt⟩ := H.2.2.2.2.2.2.1.2 l hl
  obtain ⟨lv9, l10⟩ := lt.2.2.1 h60
  have g9 : xgetL M ll[l] 6 9 = some (q.2 77 (3 * l)) := by rw [← lv9]; exact gL lc 9 rfl
  have g10 : xgetI M ll[l] 6 10 = some (q.1 73 l) := by rw [← l10]; exact gI lc 10 rfl
  obtain ⟨cp, ak, cs, as, vs, h1, h2, h3, h4, h5, h6⟩ := H4.2 c hcl
  have ca := c_callerOf (T0 := T0) (MI := MI) (x := nI c) H.2.1 H4
  rw [ix_i hc (by have := B.1.2; omega), Option.bind_some, List.getElem?_eq_getElem hcl] at ca
  have e1 := c_askOf (T0 := T0) (MI := MI) (q := q) (x := nI nn) h1 hc6 h5 h6 (fun j hj => gC (H5 c j hc hj).choose_spec.1.1)
  rw [ix_i hn (by omega), Option.map_some] at e1
  obtain ⟨sg, ⟨ac, ao, ab⟩, as2⟩ := H5 c nn hc hn
  have st : xZ T0 MI 109 0 [some (vr (some X)), some (vr (some ll[l])), o2, o3] [] M = ((xZ T0 MI 1 0 [some (vr (some (aa (60 * c + nn)))), some (vl (q.2 77 (3 * l))), none, some (vi (q.1 73 l))] [] M).bind fun z_6 => bif z_6.1.isNone then xZ T0 MI 109 63 [some (vr (some X)), some (vr (some ll[l])), xinv (some (vr (some cl[c]))), some (vr (some (aa (60 * c + nn))))] [] z_6.2 else none) := by
    rw [bq_109_0, Option.bind_some, g2, Option.bind_some, (ho_c H.2.1).1, cond_true, ca]
    simp (decide := true) (disch := omega) only [Option.bind_some, xasI, xasL, xasR, xin_t, cond_true, cond_false, nI_clamp, k_0, k_1, k_2, k_3, k_4, k_5, k_6, k_40, k_60, k_500, k_10000, pk_mul, nI_add, nI_e0, nI_ee, nI_leI, nI_ltI, xbool0, xbool1, xbn0, xbn1, xb_0, xb_1, reduceIte, one0, Option.isNone_none, ne_eq, not_true_eq_false, not_false_eq_true, if_true, if_false, ite_not, Bool.true_and, Bool.and_true]
    rw [bq_109_8, Option.isNone_some, cond_false, bq_109_14, Option.bind_some, g0, Option.bind_some, if_neg (by decide), bq_109_38, Option.bind_some, g5, Option.bind_some, Option.bind_some, gC h1.1, cond_true, e1]
    simp (decide := true) (disch := omega) only [Option.bind_some, xasI, xasL, xasR, xin_t, cond_true, cond_false, nI_clamp, k_0, k_1, k_2, k_3, k_4, k_5, k_6, k_40, k_60, k_500, k_10000, pk_mul, nI_add, nI_e0, nI_ee, nI_leI, nI_ltI, xbool0, xbool1, xbn0, xbn1, xb_0, xb_1, reduceIte, one0, Option.isNone_none, ne_eq, not_true_eq_false, not_false_eq_true, if_true, if_false, ite_not, Bool.true_and, Bool.and_true]
    rw [bq_109_46, Option.isNone_some, cond_false, bq_109_51, Option.bind_some, g9, Option.bind_some, Option.bind_some, g10, Option.bind_some, Option.bind_some, gC ac, cond_true]
  rw [st]
  unfold gheardA
  by_cases c0 : q.1 54 (60 * c + nn) = 0
  · rw [if_pos c0]
    have hs : ∀ z, stp (fun t => t.1 ≠ 1000 + (60 * c + nn)) 0 0 ow M ow (xset M (aa (60 * c + nn)) z) := fun z => stp_set (by rw [ao]; exact fun h => h rfl)
    refine ⟨xset M (aa (60 * c + nn)) (.inr (0, [vi (nI nn), vi (q.1 47 (60 * c + nn)), vi (q.1 48 (60 * c + nn)), vl (q.2 51 (60 * c + nn)), vl (q.2 52 (60 * c + nn)), vi (nI 1), vl (q.2 77 (3 * l)), vi (q.1 73 l), vi (q.1 50 (60 * c + nn))])), ow, ?_, ?_, ext_of (hs _) (fun t ht => by omega) (Nat.le_refl _) (Nat.le_refl _)⟩
    · rw [bq_1_0, gI ac 5 rfl, Option.bind_some, if_pos c0, bq_1_7]
      simp (decide := true) (disch := omega) only [Option.bind_some, xasI, xasL, xasR, xin_t, cond_true, cond_false, nI_clamp, k_0, k_1, k_2, k_3, k_4, k_5, k_6, k_40, k_60, k_500, k_10000, pk_mul, nI_add, nI_e0, nI_ee, nI_leI, nI_ltI, xbool0, xbool1, xbn0, xbn1, xb_0, xb_1, reduceIte, one0, Option.isNone_none, ne_eq, not_true_eq_false, not_false_eq_true, if_true, if_false, ite_not, Bool.true_and, Bool.and_true]
      rw [pV ac 5 rfl, Option.bind_some, pV (xset_at _ _ _) 6 rfl, Option.bind_some, xset_xset, pV (xset_at _ _ _) 7 rfl, Option.bind_some, xset_xset, bq_1_22]
      simp (decide := true) (disch := omega) only [Option.bind_some, xasI, xasL, xasR, xin_t, cond_true, cond_false, nI_clamp, k_0, k_1, k_2, k_3, k_4, k_5, k_6, k_40, k_60, k_500, k_10000, pk_mul, nI_add, nI_e0, nI_ee, nI_leI, nI_ltI, xbool0, xbool1, xbn0, xbn1, xb_0, xb_1, reduceIte, one0, Option.isNone_none, ne_eq, not_true_eq_false, not_false_eq_true, if_true, if_false, ite_not, Bool.true_and, Bool.and_true]
      rw [bq_109_63]
      rfl
    · have e53 : (rup (rupL (rup q 54 (60 * c + nn) (nI 1)) 53 (60 * c + nn) (q.2 77 (3 * l))) 49 (60 * c + nn) (q.1 73 l)).2 53 (60 * c + nn) = q.2 77 (3 * l) := by
        show va_up q.2 53 (vp_updL (q.2 53) (60 * c + nn) (q.2 77 (3 * l))) 53 (60 * c + nn) = _
        rw [va_up_self]
        unfold vp_updL
        rw [if_pos rfl]
      have eo2 : ∀ k i, k ≠ 53 ∨ i ≠ 60 * c + nn → (rup (rupL (rup q 54 (60 * c + nn) (nI 1)) 53 (60 * c + nn) (q.2 77 (3 * l))) 49 (60 * c + nn) (q.1 73 l)).2 k i = q.2 k i := fun k i h => by
        show va_up q.2 53 (vp_updL (q.2 53) (60 * c + nn) (q.2 77 (3 * l))) k i = _
        by_cases ek : k = 53
        · subst ek
          rw [va_up_self]
          unfold vp_updL
          rw [if_neg (by omega)]
        · rw [va_up_ne _ _ ek]
      have eo1 : ∀ k i, (k ≠ 49 ∧ k ≠ 54) ∨ i ≠ 60 * c + nn → (rup (rupL (rup q 54 (60 * c + nn) (nI 1)) 53 (60 * c + nn) (q.2 77 (3 * l))) 49 (60 * c + nn) (q.1 73 l)).1 k i = q.1 k i := fun k i h => by
        rw [rup_r, if_neg (by omega), rupL_1, rup_r, if_neg (by omega)]
      refine Rep_ak H B hc hn (hs _) ⟨q.1 73 l, ⟨?_, ao, ab⟩, fun _ => by rw [rup_at]⟩ (fun k i h => eo1 k i (by omega)) (fun k i h => eo2 k i h)
      rw [eo1 47 _ (Or.inl (by decide)), eo1 48 _ (Or.inl (by decide)), eo1 50 _ (Or.inl (by decide)), eo2 51 _ (Or.inl (by decide)), eo2 52 _ (Or.inl (by decide)), e53, rup_ne _ _ _ _ (k' := 54) (by decide), rupL_1, rup_at]
      exact xset_at _ _ _
  · rw [if_neg c0]
    refine ⟨M, ow, ?_, H, stp_rf _ _ _⟩
    rw [bq_1_0, gI ac 5 rfl, Option.bind_some, if_neg c0, bq_1_22]
    simp (decide := true) (disch := omega) only [Option.bind_some, xasI, xasL, xasR, xin_t, cond_true, cond_false, nI_clamp, k_0, k_1, k_2, k_3, k_4, k_5, k_6, k_40, k_60, k_500, k_10000, pk_mul, nI_add, nI_e0, nI_ee, nI_leI, nI_ltI, xbool0, xbool1, xbn0, xbn1, xb_0, xb_1, reduceIte, one0, Option.isNone_none, ne_eq, not_true_eq_false, not_false_eq_true, if_true, if_false, ite_not, Bool.true_and, Bool.and_true]
    rw [bq_109_63]
theorem newr_iff {q : xrho} {e : Int32} {c : Nat} : ∀ m k, newr q e c k m = true ↔ ∀ i, k ≤ i → i < k + m → q.1 56 (10000 * c + i) < e
  | 0, k => by
    constructor
    · intro _ i h1 h2
      omega
    · intro _
      rfl
  | m + 1, k => by
    show (decide (q.1 56 (10000 * c + k) < e) && newr q e c (k + 1) m) = true ↔ _
    rw [Bool.and_eq_true, newr_iff m (k + 1), decide_eq_true_iff]
    constructor
    · rintro ⟨h1, h2⟩ i h3 h4
      by_cases ei : i = k
      · rw [ei]; exact h1
      · exact h2 i (by omega) (by omega)
    · intro h
      exact ⟨h k (by omega) (by omega), fun i h1 h2 => h i (by omega) (by omega)⟩
theorem R_hearO {T0 MI X n l c : Nat} {ad : Nat → Nat} {fh fp : Nat → Option Nat} {cl ll dl : List Nat} {aa : Nat → Nat} {pk : Nat → Option Nat} {q : xrho} {L : xLs} {M : xM} {ow : xOw} {o2 o3 : Option xV} (H : Rep T0 X n ad fh fp cl ll dl aa pk q L M ow) (B : bds q) (hn : n ≤ 600) (hl : l < ll.length) (h60 : q.1 60 l = nI 2) (e61 : q.1 61 l = nI c) (hc : c < nu q 45 0) (hsp : q.1 63 l ≠ Int32.ofInt (-9) → isN q 70 l 9999 ∧ isN q 71 l 10000 ∧ nu q 70 l < nu q 71 l) : ∃ M' ow', xZ T0 MI 109 0 [some (vr (some X)), some (vr (some ll[l])), o2, o3] [] M = some (none, M') ∧ Rep T0 X (n + 1) ad fh fp cl ll dl aa pk (gold q l) L M' ow' ∧ stp ext 5 8000 ow M ow' M' := by
  have H4 := H.2.2.2.2.1
  have hc6 : c < 6 := by have := B.1.2; omega
  have hcl : c < cl.length := by rw [H4.1]; exact hc
  have n61 : nu q 61 l = c := by unfold nu; rw [e61, nI_clamp (by omega)]
  obtain ⟨⟨g0, g1, g2, g3, g4⟩, -⟩ := lt_g H hl
  rw [h60] at g0
  rw [e61] at g2
  obtain ⟨lf, lv, lask, ltold, ⟨lc, -, -⟩, lt⟩ := H.2.2.2.2.2.2.1.2 l hl
  have g12 : xgetR M ll[l] 6 12 = some ltold := gR lc 12 rfl
  have told := lt.2.2.2.2.1 h60
  obtain ⟨cp, ak, cs, as, vs, h1, h2, h3, h4, h5, h6⟩ := H4.2 c hcl
  have ca := c_callerOf (T0 := T0) (MI := MI) (x := nI c) H.2.1 H4
  rw [ix_i hc (by have := B.1.2; omega), Option.bind_some, List.getElem?_eq_getElem hcl] at ca
  have st : xZ T0 MI 109 0 [some (vr (some X)), some (vr (some ll[l])), o2, o3] [] M = xZ T0 MI 109 22 [some (vr (some X)), some (vr (some ll[l])), some (vr (some cl[c])), o3] [] M := by
    rw [bq_109_0, Option.bind_some, g2, Option.bind_some, (ho_c H.2.1).1, cond_true, ca]
    simp (decide := true) (disch := omega) only [Option.bind_some, xasI, xasL, xasR, xin_t, cond_true, cond_false, nI_clamp, k_0, k_1, k_2, k_3, k_4, k_5, k_6, k_40, k_60, k_500, k_10000, pk_mul, nI_add, nI_e0, nI_ee, nI_leI, nI_ltI, xbool0, xbool1, xbn0, xbn1, xb_0, xb_1, reduceIte, one0, Option.isNone_none, ne_eq, not_true_eq_false, not_false_eq_true, if_true, if_false, ite_not, Bool.true_and, Bool.and_true]
    rw [bq_109_8, Option.isNone_some, cond_false, bq_109_14, Option.bind_some, g0, Option.bind_some, k_2, if_pos rfl]
  have same : gold q l = q → ∀ M', M' = M → Rep T0 X (n + 1) ad fh fp cl ll dl aa pk (gold q l) L M' ow := fun e M' eM => by
    rw [e, eM]
    have := Rep_ca (n' := n + 1) (c := c) H B (by omega) hcl (stp_rf (fun t => t.1 ≠ 500 + c) ow M) ⟨cp, ak, cs, as, vs, h1, h2, h3, by omega, h5, h6⟩ (fun _ _ _ => rfl) (fun _ _ _ _ _ => rfl) (fun _ _ => rfl)
    exact this
  have nil : stp ext 5 8000 ow M ow M := stp_w (stp_rf _ _ _) (fun _ h => h) (by omega) (by omega)
  rw [st, bq_109_22, Option.bind_some, g12, Option.bind_some]
  rcases told with ⟨r9, tn⟩ | ⟨r9, s, ts, sp⟩
  · have eg : gold q l = q := by unfold gold; rw [if_pos r9]
    rw [tn, Option.isNone_none, cond_true]
    exact ⟨M, ow, by rw [bq_109_37], same eg M rfl, nil⟩
  · obtain ⟨a70, a71, alt⟩ := hsp r9
    have sp' : spV M ow s (q.1 63 l, nu q 70 l, nu q 71 l, q.1 64 l, q.1 72 l) := by
      show isSpot M ow s (q.1 63 l) (nI (nu q 70 l)) (nI (nu q 71 l)) (q.1 64 l) (q.1 72 l)
      rw [← a70.1, ← a71.1]
      exact sp
    generalize hT : ((q.1 63 l, nu q 70 l, nu q 71 l, q.1 64 l, q.1 72 l) : SV) = t at sp'
    have t1 : t.1 = q.1 63 l := by rw [← hT]
    have t2 : t.2.1 = nu q 70 l := by rw [← hT]
    have t3 : t.2.2.1 = nu q 71 l := by rw [← hT]
    have t4 : t.2.2.2.1 = q.1 64 l := by rw [← hT]
    have t5 : t.2.2.2.2 = q.1 72 l := by rw [← hT]
    have b71 := a71.2
    have htb : t.2.1 ≤ 10000 ∧ t.2.2.1 ≤ 10000 := by omega
    have hvb : ∀ v ∈ vs, v.2.1 ≤ 10000 ∧ v.2.2.1 ≤ 10000 := fun v hv => by
      obtain ⟨x1, x2, -⟩ := h3.1 v hv
      omega
    rw [ts, Option.isNone_some, cond_false, bq_109_29, Option.bind_some, g12, Option.bind_some, Option.bind_some, gC h1.1, cond_true, ts, bq_5_0, k_0]
    -- newer or not
    have nw : newr q (q.1 64 l) c (nu q 70 l) (nu q 71 l - nu q 70 l) = true ↔ ∀ j (hj : j < vs.length), svSh vs[j] t → vs[j].2.2.2.1 < t.2.2.2.1 := by
      rw [newr_iff]
      constructor
      · intro h j hj hs
        obtain ⟨x1, x2, x3⟩ := h3.1 _ (List.getElem_mem hj)
        have k1 : svH vs[j] (max vs[j].2.1 t.2.1) := ⟨by omega, by have := hs.2; omega⟩
        have := h (max vs[j].2.1 t.2.1) (by omega) (by have := hs.1; omega)
        rw [(x3 _ k1).2.1] at this
        rw [t4]
        exact this
      · intro h i i1 i2
        obtain ⟨v, hv, hk⟩ := h3.2.2 i (by omega)
        obtain ⟨j, hj, rfl⟩ := List.getElem_of_mem hv
        obtain ⟨x1, x2, x3⟩ := h3.1 _ (List.getElem_mem hj)
        rw [(x3 i hk).2.1, ← t4]
        exact h j hj ⟨by have := hk.1; omega, by have := hk.2; omega⟩
    rcases c_corr1 (T0 := T0) (MI := MI) h1 h2 hc6 sp' hvb htb vs.length 0 (by omega) none with ⟨⟨j, hj, -, x1, x2⟩, e1⟩ | ⟨x1, o2', o3', e1⟩
    · have eg : gold q l = q := by
        unfold gold
        rw [if_neg r9, n61, if_neg (fun e => x2 (nw.mp e j hj x1))]
      rw [e1]
      refine ⟨M, ow, ?_, same eg M rfl, nil⟩
      simp (decide := true) (disch := omega) only [Option.bind_some, xasI, xasL, xasR, xin_t, cond_true, cond_false, nI_clamp, k_0, k_1, k_2, k_3, k_4, k_5, k_6, k_40, k_60, k_500, k_10000, pk_mul, nI_add, nI_e0, nI_ee, nI_leI, nI_ltI, xbool0, xbool1, xbn0, xbn1, xb_0, xb_1, reduceIte, one0, Option.isNone_none, ne_eq, not_true_eq_false, not_false_eq_true, if_true, if_false, ite_not, Bool.true_and, Bool.and_true]
      rw [bq_109_37]
    · have nt : newr q (q.1 64 l) c (nu q 70 l) (nu q 71 l - nu q 70 l) = true := nw.mpr (fun j hj => x1 j hj (Nat.zero_le _))
      have np2 := npcs_le (t := t) h3.2.1
      obtain ⟨M1, ow1, cs1, o2'', o3'', e2, H1, S1, sp1, s1⟩ := c_corr2 (T0 := T0) (MI := MI) (t := t) hc6 hvb htb (by omega) vs.length (Nat.le_refl _) M ow cs [] o3' h1 (by rw [List.take_length, List.append_nil]; exact h2) sp' (by rw [List.take_length]; simp; exact np2)
      have len := corR_len (vs := vs) (t := t) vs.length (Nat.le_refl _) []
      rw [List.take_length] at len s1
      have sh1 : 1 ≤ nsh t vs := by
        obtain ⟨v, hv, hk⟩ := h3.2.2 t.2.1 (by omega)
        exact nsh_pos ⟨v, hv, by have := hk.1; omega, by have := hk.2; omega⟩
      have len2 : (corR t vs.length vs []).length ≤ vs.length + 1 := by
        simp at len
        omega
      obtain ⟨M2, ow2, e3, H2, S2, s2⟩ := c_addSp (T0 := T0) (MI := MI) H1 S1 hc6 (by omega) sp1
      have s12 : stp (fun t => ¬ inP (500 + c) 1 2 t) 5 8000 ow M ow2 M2 := by
        refine stp_w (stp_tr s1 s2) (fun _ h => h) (by omega) ?_
        have : npcs t vs * (2 * vs.length + 30) ≤ 2 * (2 * vs.length + 30) := Nat.mul_le_mul_right _ np2
        omega
      have fi_e : ∀ v ∈ vs, svH v t.2.1 → v.2.1 = nu q 58 (10000 * c + nu q 70 l) := fun v hv hk => by
        obtain ⟨y1, y2, y3⟩ := h3.1 v hv
        have := (y3 _ hk).2.2.2.1
        rw [t2] at this
        unfold nu
        unfold nu at this
        rw [this, nI_clamp (by omega)]
      have la_e : ∀ v ∈ vs, svH v (t.2.2.1 - 1) → v.2.2.1 = nu q 59 (10000 * c + (nu q 71 l - 1)) := fun v hv hk => by
        obtain ⟨y1, y2, y3⟩ := h3.1 v hv
        have := (y3 _ hk).2.2.2.2
        rw [t3] at this
        unfold nu
        unfold nu at this
        rw [this, nI_clamp (by omega)]
      have cv := cpV_gold (fi := nu q 58 (10000 * c + nu q 70 l)) (la := nu q 59 (10000 * c + (nu q 71 l - 1))) h3 ⟨by omega, htb.2⟩ fi_e la_e (corR_mem vs.length (Nat.le_refl _) [] (fun w hw => absurd hw List.not_mem_nil)) (corR_pw (by omega) vs.length (Nat.le_refl _) [] (by rw [List.take_length, List.append_nil]; exact h3.2.1)) (fun k hk hkt => corR_cov hkt vs.length (Nat.le_refl _) [] (by rw [List.take_length, List.append_nil]; exact h3.2.2 k hk))
      have eg : gold q l = goldq q c t.2.1 t.2.2.1 (nu q 58 (10000 * c + nu q 70 l)) (nu q 59 (10000 * c + (nu q 71 l - 1))) t.1 t.2.2.2.1 t.2.2.2.2 := by
        unfold gold
        rw [if_neg r9, n61, if_pos nt, t1, t2, t3, t4, t5]
      rw [← eg] at cv
      -- ends of the keys
      have fib : nu q 58 (10000 * c + nu q 70 l) ≤ 10000 := by
        obtain ⟨v, hv, hk⟩ := h3.2.2 t.2.1 (by omega)
        have := (hvb v hv).1
        rw [fi_e v hv hk] at this
        exact this
      have lab : nu q 59 (10000 * c + (nu q 71 l - 1)) ≤ 10000 := by
        obtain ⟨v, hv, hk⟩ := h3.2.2 (t.2.2.1 - 1) (by omega)
        have := (hvb v hv).2
        rw [la_e v hv hk] at this
        exact this
      have go : ∀ k i, (k < 55 ∨ 60 ≤ k) ∨ i < 10000 * c ∨ 10000 * c + 10000 ≤ i → (gold q l).1 k i = q.1 k i := fun k i hk => by
        rw [eg]
        unfold goldq
        by_cases ci : 10000 * c + t.2.1 ≤ i ∧ i < 10000 * c + t.2.2.1
        · have hk' : k < 55 ∨ 60 ≤ k := by omega
          unfold cps
          dsimp only
          rw [va_up_ne _ _ (by omega), va_up_ne _ _ (by omega), va_up_ne _ _ (by omega), va_up_ne _ _ (by omega), va_up_ne _ _ (by omega), fil1_v, if_neg (by omega), fil1_v, if_neg (by omega)]
        · rw [cps_out ci, fil1_v, if_neg (by omega), fil1_v, if_neg (by omega)]
      have g2' : ∀ k i, (gold q l).2 k i = q.2 k i := fun k i => by rw [eg]; rfl
      refine ⟨M2, ow2, ?_, ?_, ext_of s12 (fun t ht e => by have := e.1; omega) (Nat.le_refl _) (Nat.le_refl _)⟩
      · rw [e1, bq_5_51, gR h1.1 1 rfl, Option.bind_some, Option.bind_some, (oL_c h1.2.2.2.1).1, cond_true, oL_size h1.2.2.2.1]
        simp (decide := true) (disch := omega) only [Option.bind_some, xasI, xasL, xasR, xin_t, cond_true, cond_false, nI_clamp, k_0, k_1, k_2, k_3, k_4, k_5, k_6, k_40, k_60, k_500, k_10000, pk_mul, nI_add, nI_e0, nI_ee, nI_leI, nI_ltI, xbool0, xbool1, xbn0, xbn1, xb_0, xb_1, reduceIte, one0, Option.isNone_none, ne_eq, not_true_eq_false, not_false_eq_true, if_true, if_false, ite_not, Bool.true_and, Bool.and_true]
        rw [bq_5_58, k_1, h2.1, e2, bq_5_106, gR H1.1 1 rfl, Option.bind_some, Option.bind_some, (oL_c H1.2.2.2.1).1, cond_true, e3]
        simp (decide := true) (disch := omega) only [Option.bind_some, xasI, xasL, xasR, xin_t, cond_true, cond_false, nI_clamp, k_0, k_1, k_2, k_3, k_4, k_5, k_6, k_40, k_60, k_500, k_10000, pk_mul, nI_add, nI_e0, nI_ee, nI_leI, nI_ltI, xbool0, xbool1, xbn0, xbn1, xb_0, xb_1, reduceIte, one0, Option.isNone_none, ne_eq, not_true_eq_false, not_false_eq_true, if_true, if_false, ite_not, Bool.true_and, Bool.and_true]
        rw [bq_5_114]
        simp (decide := true) (disch := omega) only [Option.bind_some, xasI, xasL, xasR, xin_t, cond_true, cond_false, nI_clamp, k_0, k_1, k_2, k_3, k_4, k_5, k_6, k_40, k_60, k_500, k_10000, pk_mul, nI_add, nI_e0, nI_ee, nI_leI, nI_ltI, xbool0, xbool1, xbn0, xbn1, xb_0, xb_1, reduceIte, one0, Option.isNone_none, ne_eq, not_true_eq_false, not_false_eq_true, if_true, if_false, ite_not, Bool.true_and, Bool.and_true]
        rw [bq_109_37]
      · refine Rep_ca (n' := n + 1) (c := c) H B (by omega) hcl (stp_w s12 (fun t ht e => ht e.1) (Nat.le_refl _) (Nat.le_refl _)) ⟨cp, ak, _, as, _, H2, S2, cv, ?_, ?_, h6⟩ (fun k i hk => go k i (Or.inl hk)) (fun k c' i hc' hi => go k _ (Or.inr ?_)) g2'
        · rw [List.length_append, List.length_singleton]
          omega
        · rw [nu_e (go 46 c (Or.inl (by decide)))]
          exact h5
        · rcases Nat.lt_or_gt_of_ne hc' with h | h <;> omega
