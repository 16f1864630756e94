/-! what letters do at a host: OPEN, UNDO, DROP -/
theorem hs_acc {T0 MI X n h r a : Nat} {ad : Nat → Nat} {fh fp : Nat → Option Nat} {cl ll dl : List Nat} {aa : Nat → Nat} {pk : Nat → Option Nat} {q : xrho} {L : xLs} {M : xM} {ow : xOw} (H : Rep T0 X n ad fh fp cl ll dl aa pk q L M ow) (hh : h < 6) (hr : r < 40) (ha : fh h = some a) : ∃ f, rHost T0 M ow h a f q ∧ (∀ r', r' < 40 → rHold M ow (f r') (40 * h + r') q L pk) ∧ xcls M a 3 = true ∧ xgetI M a 3 0 = some (nI h) ∧ xZ T0 MI 27 0 [some (vr (some a)), some (vi (nI r))] [] M = some (some (vr (f r)), M) := by
  obtain ⟨a', f, f1, f2, f3⟩ := H.2.2.1 h hh
  rw [ha] at f1
  cases f1
  obtain ⟨ar, gv, gs, oh, og⟩ := f2
  have lk := c_look (T0 := T0) (MI := MI) (x := nI r) oh
  rw [ix_i hr (by decide), Option.bind_some] at lk
  exact ⟨f, ⟨ar, gv, gs, oh, og⟩, f3, gC oh.1, gI oh.1 0 rfl, lk⟩
theorem eps {x y : Int32} : x + nI 1 = y ↔ x = y - nI 1 := by
  constructor
  · intro h
    rw [← h]
    exact (Int32.add_sub_cancel x (nI 1)).symm
  · intro h
    rw [h]
    exact Int32.sub_add_cancel y (nI 1)
theorem gOK_15 {q : xrho} {p : Nat} {x : Int32} (G : gOK q) (h : x ≠ nI 2 ∧ x ≠ nI 3) : gOK (rup q 15 p x) := by
  refine ⟨bds_e G.1 (fun k i hk => by rw [rup_ne _ _ _ _ (by omega)]), fun s hs a b => ?_, fun l a b => ?_⟩
  · rw [nu_e (show (rup q 15 p x).1 29 s = q.1 29 s by rw [rup_ne _ _ _ _ (by decide)]), nu_e (show (rup q 15 p x).1 82 0 = q.1 82 0 by rw [rup_ne _ _ _ _ (by decide)])]
    rw [rup_ne _ _ _ _ (by decide)] at b
    rw [rup_r] at a
    by_cases e : s = p
    · rw [if_pos ⟨rfl, e⟩] at a
      exact absurd a (fun a => a.elim h.1 h.2)
    · rw [if_neg (fun z => e z.2)] at a
      exact G.2.1 s hs a b
  · rw [nu_e (show (rup q 15 p x).1 82 0 = q.1 82 0 by rw [rup_ne _ _ _ _ (by decide)])] at a
    rw [rup_ne _ _ _ _ (by decide), rup_ne _ _ _ _ (by decide)]
    exact G.2.2 l a b
theorem gOK_18 {q : xrho} {p : Nat} {x : Int32} (G : gOK q) : gOK (rup q 18 p x) := gOK_e G (fun k i hk => by rw [rup_ne _ _ _ _ (by omega)])
theorem R_open {T0 MI X n l h r a : Nat} {ad : Nat → Nat} {fh fp : Nat → Option Nat} {cl ll dl : List Nat} {aa : Nat → Nat} {pk : Nat → Option Nat} {q : xrho} {L : xLs} {M : xM} {ow : xOw} {o3 : Option xV} (H : Rep T0 X n ad fh fp cl ll dl aa pk q L M ow) (G : gOK q) (hl : l < ll.length) (hh : lh q l h r) (h62 : q.1 62 l = 0) (ha : fh h = some a) (hroom : ll.length < 1200) : ∃ M' ow' ll' pk', xZ T0 MI 117 0 [some (vr (some X)), some (vr (some a)), some (vr (some ll[l])), o3] [] M = some (none, M') ∧ Rep T0 X n ad fh fp cl ll' dl aa pk' (gmvd q 7 h r (q.1 64 l)) L M' ow' ∧ stp ext 2 (2 * ll.length + 26) ow M ow' M' := by
  have hh0 := hh
  obtain ⟨e61, hh6, e63, hr40⟩ := hh
  obtain ⟨⟨g0, g1, g2, g3, g4⟩, -, ⟨lo, lb⟩, -⟩ := lt_g H hl
  rw [e63] at g3
  obtain ⟨f, f2, f3, hac, -, lk⟩ := hs_acc (T0 := T0) (MI := MI) (r := r) H hh6 hr40 ha
  have e0 : gmvd q 7 h r (q.1 64 l) = if gown (gopen q (40 * h + r) (q.1 64 l)) (40 * h + r) ∧ (gopen q (40 * h + r) (q.1 64 l)).1 18 (40 * h + r) = q.1 64 l then gbk (gopen q (40 * h + r) (q.1 64 l)) 8 h r (q.1 64 l) else gopen q (40 * h + r) (q.1 64 l) := rfl
  rw [e0, bq_117_0, Option.bind_some, g3, Option.bind_some, Option.bind_some, hac, cond_true, lk]
  simp (decide := true) (disch := omega) only [Option.bind_some, xasI, xasL, xasR, xin_t, cond_true, cond_false, nI_clamp, k_0, k_1, k_2, k_3, k_4, k_5, k_6, k_40, k_60, k_500, k_10000, pk_mul, nI_add, nI_e0, nI_ee, nI_leI, nI_ltI, xbool0, xbool1, xbn0, xbn1, xb_0, xb_1, reduceIte, one0, Option.isNone_none, ne_eq, not_true_eq_false, not_false_eq_true, if_true, if_false, ite_not, Bool.true_and, Bool.and_true]
  have hN := f3 r hr40
  have nil : stp ext 2 (2 * ll.length + 26) ow M ow M := stp_w (stp_rf _ _ _) (fun _ h => h) (by omega) (by omega)
  cases hfr : f r with
  | none =>
    rw [hfr] at hN
    have z15 : q.1 15 (40 * h + r) = 0 := hN.1
    have eo : gopen q (40 * h + r) (q.1 64 l) = q := by
      unfold gopen
      rw [if_neg (fun e => by rw [z15] at e; exact absurd e.1 (by decide))]
    rw [eo, if_neg (fun e => gown_0 z15 e.1)]
    refine ⟨M, ow, ll, pk, ?_, H, nil⟩
    rw [bq_117_8, Option.isNone_none, cond_true, bq_117_13]
  | some b =>
    have hN0 := hN
    rw [hfr] at hN
    have st := hd_st hN
    obtain ⟨ra, ka, sa, hv, sn, R, K, S, hA, ti⟩ := hN
    -- the state
    have st1 : ∃ M1, xZ T0 MI 117 14 [some (vr (some X)), some (vr (some a)), some (vr (some ll[l])), some (vr (some b))] [] M = xZ T0 MI 117 38 [some (vr (some X)), some (vr (some a)), some (vr (some ll[l])), some (vr (some b))] [] M1 ∧ Rep T0 X n ad fh fp cl ll dl aa pk (gopen q (40 * h + r) (q.1 64 l)) L M1 ow ∧ rHold M1 ow (some b) (40 * h + r) (gopen q (40 * h + r) (q.1 64 l)) L pk ∧ gOK (gopen q (40 * h + r) (q.1 64 l)) ∧ stp (off (100 + (40 * h + r))) 0 0 ow M ow M1 := by
      unfold gopen
      by_cases c : q.1 15 (40 * h + r) = nI 5 ∧ q.1 18 (40 * h + r) = q.1 64 l
      · rw [if_pos c]
        obtain ⟨⟨v1, v2, v3⟩, vR, vK⟩ := ti.2.2.1 (by rw [c.1]; decide)
        obtain ⟨M1, e1, hA1, s1⟩ := hA_i hA 0 (nI 1) (Or.inl rfl)
        have s1' := off_0 s1
        have hN1 : rHold M1 ow (some b) (40 * h + r) (rup q 15 (40 * h + r) (nI 1)) L pk := by
          refine ⟨ra, ka, sa, _, sn, R, K, S, hA1, ?_⟩
          unfold tie
          rw [rup_at, rup_ne _ _ _ _ (k' := 30) (by decide), rup_ne _ _ _ _ (k' := 31) (by decide), rup_ne _ _ _ _ (k' := 16) (by decide), rup_ne _ _ _ _ (k' := 17) (by decide), rup_ne _ _ _ _ (k' := 18) (by decide)]
          refine ⟨⟨rfl, ti.1.2.1, ti.1.2.2⟩, fun e => absurd e (by decide), fun _ => ⟨⟨v1, v2, v3⟩, vR, vK⟩, fun e => ?_, fun e => ?_, fun e => absurd e (by decide)⟩
          · rcases e with e | e | e <;> exact absurd e (by decide)
          · rcases e with e | e <;> exact absurd e (by decide)
        obtain ⟨H1, -, -⟩ := Rep_hd (q' := rup q 15 (40 * h + r) (nI 1)) (L' := L) H G.1 hh6 hr40 ha f2 f3 s1' (by rw [hfr]; exact hN1) (fun k i hk => by rw [rup_ne _ _ _ _ (by omega)]) (fun k p hp _ => by rw [rup_r, if_neg (fun e => hp e.2)]) (fun _ _ _ _ => rfl) (fun _ _ => rfl) (fun _ _ => rfl) (fun _ _ _ _ => rfl) rfl
        refine ⟨M1, ?_, H1, hN1, gOK_15 G (by decide), s1'⟩
        have g3' := hA_g hA 3 (by decide)
        rw [v3, c.2] at g3'
        rw [bq_117_14, Option.bind_some, st.1, Option.bind_some, k_5, if_pos c.1, bq_117_22, Option.bind_some, g3', Option.bind_some, Option.bind_some, g4, Option.bind_some, if_pos rfl, bq_117_33, Option.bind_some, k_1, e1, Option.bind_some]
      · rw [if_neg c]
        refine ⟨M, ?_, H, by rw [← hfr]; exact hN0, G, stp_rf _ _ _⟩
        rw [bq_117_14, Option.bind_some, st.1, Option.bind_some, k_5]
        by_cases c1 : q.1 15 (40 * h + r) = nI 5
        · have v3 := (ti.2.2.1 (by rw [c1]; decide)).1.2.2
          have g3' := hA_g hA 3 (by decide)
          rw [v3] at g3'
          rw [if_pos c1, bq_117_22, Option.bind_some, g3', Option.bind_some, Option.bind_some, g4, Option.bind_some, if_neg (fun e => c ⟨c1, e⟩)]
        · rw [if_neg c1]
    obtain ⟨M1, e1, H1, hN1, G1, s1⟩ := st1
    generalize hz : gopen q (40 * h + r) (q.1 64 l) = z at H1 hN1 G1 ⊢
    have z6 : ∀ k i, 60 ≤ k → z.1 k i = q.1 k i := fun k i hk => by
      rw [← hz]
      unfold gopen
      split
      · rw [rup_ne _ _ _ _ (by omega)]
      · rfl
    have stz := hd_st hN1
    obtain ⟨⟨-, -, -, -, g4'⟩, -⟩ := lt_g H1 hl
    obtain ⟨ra', ka', sa', hv', sn', R', K', S', hA', ti'⟩ := hN1
    have ih : xZ T0 MI 10 0 [some (vr (some b))] [] M1 = some (some (vi (tI (gown z (40 * h + r)))), M1) := c_isHome stz.1 stz.2
    rw [bq_117_8, Option.isNone_some, cond_false, e1, bq_117_38, Option.bind_some, stz.2, cond_true, ih]
    simp (decide := true) (disch := omega) only [Option.bind_some, xasI, xasL, xasR, xin_t, cond_true, cond_false, nI_clamp, k_0, k_1, k_2, k_3, k_4, k_5, k_6, k_40, k_60, k_500, k_10000, pk_mul, nI_add, nI_e0, nI_ee, nI_leI, nI_ltI, xbool0, xbool1, xbn0, xbn1, xb_0, xb_1, reduceIte, one0, Option.isNone_none, ne_eq, not_true_eq_false, not_false_eq_true, if_true, if_false, ite_not, Bool.true_and, Bool.and_true]
    rw [bq_117_42]
    by_cases hO : gown z (40 * h + r)
    · have v3 := (ti'.2.2.1 (fun e => gown_0 e hO)).1.2.2
      have g3' := hA_g hA' 3 (by decide)
      rw [v3] at g3'
      rw [tI_t hO, if_neg one0, bq_117_45, Option.bind_some, g3', Option.bind_some, Option.bind_some, g4', z6 64 l (by decide), Option.bind_some]
      by_cases c2 : z.1 18 (40 * h + r) = q.1 64 l
      · obtain ⟨M2, ow2, ll2, pk2, e2, H2, s2⟩ := R_reply (T0 := T0) (MI := MI) (k := 8) H1 G1 hl ⟨by rw [z6 61 l (by decide)]; exact e61, hh6, by rw [z6 63 l (by decide)]; exact e63, hr40⟩ (by rw [z6 62 l (by decide)]; exact h62) (by decide) hroom
        rw [z6 64 l (by decide)] at H2
        rw [if_pos c2, if_pos ⟨hO, c2⟩]
        refine ⟨M2, ow2, ll2, pk2, ?_, H2, stp_w (stp_tr (ext_of s1 (fun t ht => by show t.1 ≠ _; omega) (Nat.le_refl _) (Nat.le_refl _)) s2) (fun _ h => h) (by omega) (by omega)⟩
        rw [bq_117_56, (ho_c H1.2.1).1, cond_true]
        rw [show xZ T0 MI 121 0 [some (vr (some X)), some (vi (Int32.ofInt 8)), some (vr (some ll[l]))] [] M1 = some (none, M2) from e2]
        simp (decide := true) (disch := omega) only [Option.bind_some, xasI, xasL, xasR, xin_t, cond_true, cond_false, nI_clamp, k_0, k_1, k_2, k_3, k_4, k_5, k_6, k_40, k_60, k_500, k_10000, pk_mul, nI_add, nI_e0, nI_ee, nI_leI, nI_ltI, xbool0, xbool1, xbn0, xbn1, xb_0, xb_1, reduceIte, one0, Option.isNone_none, ne_eq, not_true_eq_false, not_false_eq_true, if_true, if_false, ite_not, Bool.true_and, Bool.and_true]
        rw [bq_117_63]
      · rw [if_neg c2, if_neg (fun e => c2 e.2)]
        refine ⟨M1, ow, ll, pk, ?_, H1, stp_w (ext_of s1 (fun t ht => by show t.1 ≠ _; omega) (Nat.le_refl _) (Nat.le_refl _)) (fun _ h => h) (by omega) (by omega)⟩
        rw [bq_117_63]
    · rw [tI_f hO, if_pos rfl, if_neg (fun e => hO e.1)]
      refine ⟨M1, ow, ll, pk, ?_, H1, stp_w (ext_of s1 (fun t ht => by show t.1 ≠ _; omega) (Nat.le_refl _) (Nat.le_refl _)) (fun _ h => h) (by omega) (by omega)⟩
      rw [bq_117_63]
theorem R_undoL {T0 MI X n l h r a : Nat} {ad : Nat → Nat} {fh fp : Nat → Option Nat} {cl ll dl : List Nat} {aa : Nat → Nat} {pk : Nat → Option Nat} {q : xrho} {L : xLs} {M : xM} {ow : xOw} {o3 o4 : Option xV} (H : Rep T0 X n ad fh fp cl ll dl aa pk q L M ow) (G : gOK q) (hl : l < ll.length) (hh : lh q l h r) (h62 : q.1 62 l = 0) (ha : fh h = some a) (hroom : ll.length < 1200) : ∃ M' ow' ll' pk', xZ T0 MI 119 0 [some (vr (some X)), some (vr (some a)), some (vr (some ll[l])), o3, o4] [] M = some (none, M') ∧ Rep T0 X n ad fh fp cl ll' dl aa pk' (gmvd q 11 h r (q.1 64 l)) L M' ow' ∧ stp ext 2 (2 * ll.length + 26) ow M ow' M' := by
  have hh0 := hh
  obtain ⟨e61, hh6, e63, hr40⟩ := hh
  obtain ⟨⟨g0, g1, g2, g3, g4⟩, -, ⟨lo, lb⟩, -⟩ := lt_g H hl
  rw [e63] at g3
  obtain ⟨f, f2, f3, hac, -, lk⟩ := hs_acc (T0 := T0) (MI := MI) (r := r) H hh6 hr40 ha
  have e0 : gmvd q 11 h r (q.1 64 l) = if gown (gund q (40 * h + r) (q.1 64 l)) (40 * h + r) ∧ ¬ (gund q (40 * h + r) (q.1 64 l)).1 18 (40 * h + r) < q.1 64 l + nI 1 then gbk (gund q (40 * h + r) (q.1 64 l)) 12 h r (q.1 64 l) else gund q (40 * h + r) (q.1 64 l) := rfl
  rw [e0, bq_119_0, Option.bind_some, g3, Option.bind_some, Option.bind_some, hac, cond_true, lk]
  simp (decide := true) (disch := omega) only [Option.bind_some, xasI, xasL, xasR, xin_t, cond_true, cond_false, nI_clamp, k_0, k_1, k_2, k_3, k_4, k_5, k_6, k_40, k_60, k_500, k_10000, pk_mul, nI_add, nI_e0, nI_ee, nI_leI, nI_ltI, xbool0, xbool1, xbn0, xbn1, xb_0, xb_1, reduceIte, one0, Option.isNone_none, ne_eq, not_true_eq_false, not_false_eq_true, if_true, if_false, ite_not, Bool.true_and, Bool.and_true]
  have hN := f3 r hr40
  have nil : stp ext 2 (2 * ll.length + 26) ow M ow M := stp_w (stp_rf _ _ _) (fun _ h => h) (by omega) (by omega)
  cases hfr : f r with
  | none =>
    rw [hfr] at hN
    have z15 : q.1 15 (40 * h + r) = 0 := hN.1
    have eo : gund q (40 * h + r) (q.1 64 l) = q := by
      unfold gund
      rw [if_neg (fun e => gown_0 z15 e.1)]
    rw [eo, if_neg (fun e => gown_0 z15 e.1)]
    refine ⟨M, ow, ll, pk, ?_, H, nil⟩
    rw [bq_119_8, Option.isNone_none, cond_true, bq_119_20]
  | some b =>
    have hN0 := hN
    rw [hfr] at hN
    have st := hd_st hN
    obtain ⟨ra, ka, sa, hv, sn, R, K, S, hA, ti⟩ := hN
    have ih : xZ T0 MI 10 0 [some (vr (some b))] [] M = some (some (vi (tI (gown q (40 * h + r)))), M) := c_isHome st.1 st.2
    rw [bq_119_8, Option.isNone_some, cond_false, bq_119_13, Option.bind_some, st.2, cond_true, ih]
    simp (decide := true) (disch := omega) only [Option.bind_some, xasI, xasL, xasR, xin_t, cond_true, cond_false, nI_clamp, k_0, k_1, k_2, k_3, k_4, k_5, k_6, k_40, k_60, k_500, k_10000, pk_mul, nI_add, nI_e0, nI_ee, nI_leI, nI_ltI, xbool0, xbool1, xbn0, xbn1, xb_0, xb_1, reduceIte, one0, Option.isNone_none, ne_eq, not_true_eq_false, not_false_eq_true, if_true, if_false, ite_not, Bool.true_and, Bool.and_true]
    rw [bq_119_17]
    by_cases hO : gown q (40 * h + r)
    · obtain ⟨⟨v1, v2, v3⟩, vR, vK⟩ := ti.2.2.1 (fun e => gown_0 e hO)
      have me := c_mvEp (T0 := T0) (MI := MI) (hA_g hA 3 (by decide))
      rw [v3] at me
      have st1 : ∃ M1, xZ T0 MI 119 21 [some (vr (some X)), some (vr (some a)), some (vr (some ll[l])), some (vr (some b)), o4] [] M = xZ T0 MI 119 54 [some (vr (some X)), some (vr (some a)), some (vr (some ll[l])), some (vr (some b)), some (vi (q.1 64 l + nI 1))] [] M1 ∧ Rep T0 X n ad fh fp cl ll dl aa pk (gund q (40 * h + r) (q.1 64 l)) L M1 ow ∧ rHold M1 ow (some b) (40 * h + r) (gund q (40 * h + r) (q.1 64 l)) L pk ∧ gOK (gund q (40 * h + r) (q.1 64 l)) ∧ gown (gund q (40 * h + r) (q.1 64 l)) (40 * h + r) ∧ stp (off (100 + (40 * h + r))) 0 0 ow M ow M1 := by
        rw [bq_119_21, Option.bind_some, g4, Option.bind_some, Option.bind_some, hA_c hA, cond_true, me]
        simp (decide := true) (disch := omega) only [Option.bind_some, xasI, xasL, xasR, xin_t, cond_true, cond_false, nI_clamp, k_0, k_1, k_2, k_3, k_4, k_5, k_6, k_40, k_60, k_500, k_10000, pk_mul, nI_add, nI_e0, nI_ee, nI_leI, nI_ltI, xbool0, xbool1, xbn0, xbn1, xb_0, xb_1, reduceIte, one0, Option.isNone_none, ne_eq, not_true_eq_false, not_false_eq_true, if_true, if_false, ite_not, Bool.true_and, Bool.and_true]
        rw [bq_119_33, Option.bind_some, g4, Option.bind_some]
        unfold gund
        by_cases c : q.1 18 (40 * h + r) = q.1 64 l - nI 1
        · rw [if_pos (eps.mpr c), if_pos ⟨hO, c⟩]
          obtain ⟨M1, e1, hA1, s1⟩ := c_beW (T0 := T0) (MI := MI) (x := hv 1) (y := hv 2) (z := q.1 64 l + nI 1) hA
          have hN1 : rHold M1 ow (some b) (40 * h + r) (rup (rup q 15 (40 * h + r) (nI 1)) 18 (40 * h + r) (q.1 64 l + nI 1)) L pk := by
            refine ⟨ra, ka, sa, _, none, R, K, [], hA1, ?_⟩
            unfold tie
            rw [rup_at, rup_ne _ _ _ _ (k' := 15) (by decide), rup_at, rup_ne _ _ _ _ (k' := 30) (by decide), rup_ne _ _ _ _ (k' := 31) (by decide), rup_ne _ _ _ _ (k' := 16) (by decide), rup_ne _ _ _ _ (k' := 17) (by decide), rup_ne _ _ _ _ (k' := 30) (by decide), rup_ne _ _ _ _ (k' := 31) (by decide), rup_ne _ _ _ _ (k' := 16) (by decide), rup_ne _ _ _ _ (k' := 17) (by decide)]
            refine ⟨⟨rfl, ti.1.2.1, ti.1.2.2⟩, fun e => absurd e (by decide), fun _ => ⟨⟨v1, v2, rfl⟩, vR, vK⟩, fun e => ?_, fun e => ?_, fun e => absurd e (by decide)⟩
            · rcases e with e | e | e <;> exact absurd e (by decide)
            · rcases e with e | e <;> exact absurd e (by decide)
          obtain ⟨H1, -, -⟩ := Rep_hd (q' := rup (rup q 15 (40 * h + r) (nI 1)) 18 (40 * h + r) (q.1 64 l + nI 1)) (L' := L) H G.1 hh6 hr40 ha f2 f3 s1 (by rw [hfr]; exact hN1) (fun k i hk => by rw [rup_ne _ _ _ _ (by omega), rup_ne _ _ _ _ (by omega)]) (fun k p hp _ => by rw [rup_r, if_neg (fun e => hp e.2), rup_r, if_neg (fun e => hp e.2)]) (fun _ _ _ _ => rfl) (fun _ _ => rfl) (fun _ _ => rfl) (fun _ _ _ _ => rfl) rfl
          refine ⟨M1, ?_, H1, hN1, gOK_18 (gOK_15 G (by decide)), Or.inl (by rw [rup_ne _ _ _ _ (by decide), rup_at]; rfl), s1⟩
          rw [bq_119_40, Option.bind_some, hA_g hA 1 (by decide), Option.bind_some, Option.bind_some, hA_g hA 2 (by decide), Option.bind_some, Option.bind_some, hA_c hA, cond_true, e1]
          simp (decide := true) (disch := omega) only [Option.bind_some, xasI, xasL, xasR, xin_t, cond_true, cond_false, nI_clamp, k_0, k_1, k_2, k_3, k_4, k_5, k_6, k_40, k_60, k_500, k_10000, pk_mul, nI_add, nI_e0, nI_ee, nI_leI, nI_ltI, xbool0, xbool1, xbn0, xbn1, xb_0, xb_1, reduceIte, one0, Option.isNone_none, ne_eq, not_true_eq_false, not_false_eq_true, if_true, if_false, ite_not, Bool.true_and, Bool.and_true]
        · rw [if_neg (fun e => c (eps.mp e)), if_neg (fun e => c e.2)]
          exact ⟨M, rfl, H, by rw [← hfr]; exact hN0, G, hO, stp_rf _ _ _⟩
      obtain ⟨M1, e1, H1, hN1, G1, hO1, s1⟩ := st1
      rw [tI_t hO, if_neg one0, e1]
      generalize hz : gund q (40 * h + r) (q.1 64 l) = z at H1 hN1 G1 hO1 ⊢
      have z6 : ∀ k i, 60 ≤ k → z.1 k i = q.1 k i := fun k i hk => by
        rw [← hz]
        unfold gund
        split
        · rw [rup_ne _ _ _ _ (by omega), rup_ne _ _ _ _ (by omega)]
        · rfl
      obtain ⟨ra', ka', sa', hv', sn', R', K', S', hA', ti'⟩ := hN1
      have v3' := (ti'.2.2.1 (fun e => gown_0 e hO1)).1.2.2
      have g3' := hA_g hA' 3 (by decide)
      rw [v3'] at g3'
      rw [bq_119_54, Option.bind_some, g3', Option.bind_some]
      by_cases c2 : z.1 18 (40 * h + r) < q.1 64 l + nI 1
      · rw [if_pos c2, if_neg (fun e => e.2 c2)]
        refine ⟨M1, ow, ll, pk, ?_, H1, stp_w (ext_of s1 (fun t ht => by show t.1 ≠ _; omega) (Nat.le_refl _) (Nat.le_refl _)) (fun _ h => h) (by omega) (by omega)⟩
        rw [bq_119_70]
      · obtain ⟨M2, ow2, ll2, pk2, e2, H2, s2⟩ := R_reply (T0 := T0) (MI := MI) (k := 12) H1 G1 hl ⟨by rw [z6 61 l (by decide)]; exact e61, hh6, by rw [z6 63 l (by decide)]; exact e63, hr40⟩ (by rw [z6 62 l (by decide)]; exact h62) (by decide) hroom
        rw [z6 64 l (by decide)] at H2
        rw [if_neg c2, if_pos ⟨hO1, c2⟩]
        refine ⟨M2, ow2, ll2, pk2, ?_, H2, stp_w (stp_tr (ext_of s1 (fun t ht => by show t.1 ≠ _; omega) (Nat.le_refl _) (Nat.le_refl _)) s2) (fun _ h => h) (by omega) (by omega)⟩
        rw [bq_119_63, (ho_c H1.2.1).1, cond_true]
        rw [show xZ T0 MI 121 0 [some (vr (some X)), some (vi (Int32.ofInt 12)), some (vr (some ll[l]))] [] M1 = some (none, M2) from e2]
        simp (decide := true) (disch := omega) only [Option.bind_some, xasI, xasL, xasR, xin_t, cond_true, cond_false, nI_clamp, k_0, k_1, k_2, k_3, k_4, k_5, k_6, k_40, k_60, k_500, k_10000, pk_mul, nI_add, nI_e0, nI_ee, nI_leI, nI_ltI, xbool0, xbool1, xbn0, xbn1, xb_0, xb_1, reduceIte, one0, Option.isNone_none, ne_eq, not_true_eq_false, not_false_eq_true, if_true, if_false, ite_not, Bool.true_and, Bool.and_true]
        rw [bq_119_70]
    · have eo : gund q (40 * h + r) (q.1 64 l) = q := by
        unfold gund
        rw [if_neg (fun e => hO e.1)]
      rw [eo, tI_f hO, if_pos rfl, if_neg (fun e => hO e.1)]
      refine ⟨M, ow, ll, pk, ?_, H, nil⟩
      rw [bq_119_20]
theorem R_drop {T0 MI X n l h r a : Nat} {ad : Nat → Nat} {fh fp : Nat → Option Nat} {cl ll dl : List Nat} {aa : Nat → Nat} {pk : Nat → Option Nat} {q : xrho} {L : xLs} {M : xM} {ow : xOw} {o3 : Option xV} (H : Rep T0 X n ad fh fp cl ll dl aa pk q L M ow) (G : gOK q) (hl : l < ll.length) (hh : lh q l h r) (h62 : q.1 62 l = 0) (ha : fh h = some a) (hroom : ll.length < 1200) : ∃ M' ow' ll' pk', xZ T0 MI 120 0 [some (vr (some X)), some (vr (some a)), some (vr (some ll[l])), o3] [] M = some (none, M') ∧ Rep T0 X n ad fh fp cl ll' dl aa pk' (gmvd q 13 h r (q.1 64 l)) L M' ow' ∧ stp ext 2 (2 * ll.length + 26) ow M ow' M' := by
  have hh0 := hh
  obtain ⟨e61, hh6, e63, hr40⟩ := hh
  obtain ⟨⟨g0, g1, g2, g3, g4⟩, -, ⟨lo, lb⟩, -⟩ := lt_g H hl
  rw [e63] at g3
  obtain ⟨f, f2, f3, hac, -, lk⟩ := hs_acc (T0 := T0) (MI := MI) (r := r) H hh6 hr40 ha
  have e0 : gmvd q 13 h r (q.1 64 l) = gbk (if (q.1 15 (40 * h + r) = nI 4 ∨ q.1 15 (40 * h + r) = nI 5) ∧ q.1 18 (40 * h + r) = q.1 64 l then rup q 15 (40 * h + r) (nI 0) else q) 14 h r (q.1 64 l) := rfl
  rw [e0, bq_120_0, Option.bind_some, g3, Option.bind_some, Option.bind_some, hac, cond_true, lk]
  simp (decide := true) (disch := omega) only [Option.bind_some, xasI, xasL, xasR, xin_t, cond_true, cond_false, nI_clamp, k_0, k_1, k_2, k_3, k_4, k_5, k_6, k_40, k_60, k_500, k_10000, pk_mul, nI_add, nI_e0, nI_ee, nI_leI, nI_ltI, xbool0, xbool1, xbn0, xbn1, xb_0, xb_1, reduceIte, one0, Option.isNone_none, ne_eq, not_true_eq_false, not_false_eq_true, if_true, if_false, ite_not, Bool.true_and, Bool.and_true]
  have hN := f3 r hr40
  -- to 35
  have st1 : ∃ M1, xZ T0 MI 120 8 [some (vr (some X)), some (vr (some a)), some (vr (some ll[l])), o3] [vr (f r)] M = xZ T0 MI 120 35 [some (vr (some X)), some (vr (some a)), some (vr (some ll[l])), some (vr (f r))] [] M1 ∧ Rep T0 X n ad fh fp cl ll dl aa pk (if (q.1 15 (40 * h + r) = nI 4 ∨ q.1 15 (40 * h + r) = nI 5) ∧ q.1 18 (40 * h + r) = q.1 64 l then rup q 15 (40 * h + r) (nI 0) else q) L M1 ow ∧ gOK (if (q.1 15 (40 * h + r) = nI 4 ∨ q.1 15 (40 * h + r) = nI 5) ∧ q.1 18 (40 * h + r) = q.1 64 l then rup q 15 (40 * h + r) (nI 0) else q) ∧ stp (off (100 + (40 * h + r))) 0 0 ow M ow M1 := by
    cases hfr : f r with
    | none =>
      rw [hfr] at hN
      have z15 : q.1 15 (40 * h + r) = 0 := hN.1
      rw [if_neg (fun e => by rw [z15] at e; rcases e.1 with e | e <;> exact absurd e (by decide))]
      refine ⟨M, ?_, H, G, stp_rf _ _ _⟩
      rw [bq_120_8, Option.isNone_none, cond_true]
    | some b =>
      have hN0 := hN
      rw [hfr] at hN
      have st := hd_st hN
      obtain ⟨ra, ka, sa, hv, sn, R, K, S, hA, ti⟩ := hN
      rw [bq_120_8, Option.isNone_some, cond_false, bq_120_13, Option.bind_some, st.2, cond_true, c_isTakenH st.1]
      simp (decide := true) (disch := omega) only [Option.bind_some, xasI, xasL, xasR, xin_t, cond_true, cond_false, nI_clamp, k_0, k_1, k_2, k_3, k_4, k_5, k_6, k_40, k_60, k_500, k_10000, pk_mul, nI_add, nI_e0, nI_ee, nI_leI, nI_ltI, xbool0, xbool1, xbn0, xbn1, xb_0, xb_1, reduceIte, one0, Option.isNone_none, ne_eq, not_true_eq_false, not_false_eq_true, if_true, if_false, ite_not, Bool.true_and, Bool.and_true]
      rw [bq_120_17]
      by_cases c1 : q.1 15 (40 * h + r) = nI 4 ∨ q.1 15 (40 * h + r) = nI 5
      · have v3 := (ti.2.2.1 (by rcases c1 with e | e <;> (rw [e]; decide))).1.2.2
        have g3' := hA_g hA 3 (by decide)
        rw [v3] at g3'
        rw [tI_t c1, if_neg one0, bq_120_20, Option.bind_some, g3', Option.bind_some, Option.bind_some, g4, Option.bind_some]
        by_cases c2 : q.1 18 (40 * h + r) = q.1 64 l
        · rw [if_pos c2, if_pos ⟨c1, c2⟩]
          obtain ⟨M1, e1, hA1, s1⟩ := c_beN (T0 := T0) (MI := MI) hA
          obtain ⟨H1, -, -⟩ := Rep_hd (q' := rup q 15 (40 * h + r) (nI 0)) (L' := L) H G.1 hh6 hr40 ha f2 f3 s1 (by
            rw [hfr]
            refine ⟨ra, ka, sa, _, none, [], _, [], hA1, ?_⟩
            unfold tie
            rw [rup_at, rup_ne _ _ _ _ (k' := 30) (by decide), rup_ne _ _ _ _ (k' := 31) (by decide)]
            refine ⟨⟨rfl, ti.1.2.1, ti.1.2.2⟩, fun _ => ⟨rfl, fun _ _ => rfl⟩, fun e => absurd rfl e, fun e => ?_, fun e => ?_, fun e => absurd e (by decide)⟩
            · rcases e with e | e | e <;> exact absurd e (by decide)
            · rcases e with e | e <;> exact absurd e (by decide)) (fun k i hk => by rw [rup_ne _ _ _ _ (by omega)]) (fun k p hp _ => by rw [rup_r, if_neg (fun e => hp e.2)]) (fun _ _ _ _ => rfl) (fun _ _ => rfl) (fun _ _ => rfl) (fun _ _ _ _ => rfl) rfl
          refine ⟨M1, ?_, H1, gOK_15 G (by decide), s1⟩
          rw [bq_120_31, Option.bind_some, hA_c hA, cond_true, e1]
          simp (decide := true) (disch := omega) only [Option.bind_some, xasI, xasL, xasR, xin_t, cond_true, cond_false, nI_clamp, k_0, k_1, k_2, k_3, k_4, k_5, k_6, k_40, k_60, k_500, k_10000, pk_mul, nI_add, nI_e0, nI_ee, nI_leI, nI_ltI, xbool0, xbool1, xbn0, xbn1, xb_0, xb_1, reduceIte, one0, Option.isNone_none, ne_eq, not_true_eq_false, not_false_eq_true, if_true, if_false, ite_not, Bool.true_and, Bool.and_true]
        · rw [if_neg c2, if_neg (fun e => c2 e.2)]
          exact ⟨M, rfl, H, G, stp_rf _ _ _⟩
      · rw [tI_f c1, if_pos rfl, if_neg (fun e => c1 e.1)]
        exact ⟨M, rfl, H, G, stp_rf _ _ _⟩
  obtain ⟨M1, e1, H1, G1, s1⟩ := st1
  rw [e1]
  generalize hz : (if (q.1 15 (40 * h + r) = nI 4 ∨ q.1 15 (40 * h + r) = nI 5) ∧ q.1 18 (40 * h + r) = q.1 64 l then rup q 15 (40 * h + r) (nI 0) else q) = z at H1 G1 ⊢
  have z6 : ∀ k i, 60 ≤ k → z.1 k i = q.1 k i := fun k i hk => by
    rw [← hz]
    split
    · rw [rup_ne _ _ _ _ (by omega)]
    · rfl
  obtain ⟨M2, ow2, ll2, pk2, e2, H2, s2⟩ := R_reply (T0 := T0) (MI := MI) (k := 14) H1 G1 hl ⟨by rw [z6 61 l (by decide)]; exact e61, hh6, by rw [z6 63 l (by decide)]; exact e63, hr40⟩ (by rw [z6 62 l (by decide)]; exact h62) (by decide) hroom
  rw [z6 64 l (by decide)] at H2
  refine ⟨M2, ow2, ll2, pk2, ?_, H2, stp_w (stp_tr (ext_of s1 (fun t ht => by show t.1 ≠ _; omega) (Nat.le_refl _) (Nat.le_refl _)) s2) (fun _ h => h) (by omega) (by omega)⟩
  rw [bq_120_35, (ho_c H1.2.1).1, cond_true]
  rw [show xZ T0 MI 121 0 [some (vr (some X)), some (vi (Int32.ofInt 14)), some (vr (some ll[l]))] [] M1 = some (none, M2) from e2]
  simp (decide := true) (disch := omega) only [Option.bind_some, xasI, xasL, xasR, xin_t, cond_true, cond_false, nI_clamp, k_0, k_1, k_2, k_3, k_4, k_5, k_6, k_40, k_60, k_500, k_10000, pk_mul, nI_add, nI_e0, nI_ee, nI_leI, nI_ltI, xbool0, xbool1, xbn0, xbn1, xb_0, xb_1, reduceIte, one0, Option.isNone_none, ne_eq, not_true_eq_false, not_false_eq_true, if_true, if_false, ite_not, Bool.true_and, Bool.and_true]
  rw [bq_120_42]
