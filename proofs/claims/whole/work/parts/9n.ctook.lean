/-! TOOK -/
def gvJ (q : xrho) : Prop := ∀ p, p < 240 → (q.1 15 p = nI 2 ∨ q.1 15 p = nI 3) → (q.1 33 p ≠ 0 → q.1 32 p ≠ 0) ∧ (q.1 32 p = 0 → q.1 28 p = q.1 69 (nu q 29 p) ∧ (q.1 28 p = Int32.ofInt (-1) ∨ ¬ q.1 28 p < 0))
theorem R_took {T0 MI X n l h r a : Nat} {ad : Nat → Nat} {fh fp : Nat → Option Nat} {cl ll dl : List Nat} {aa : Nat → Nat} {pk : Nat → Option Nat} {q : xrho} {L : xLs} {M : xM} {ow : xOw} {o3 : Option xV} (H : Rep T0 X n ad fh fp cl ll dl aa pk q L M ow) (G : gOK q) (V : gvI q) (J : gvJ q) (hl : l < ll.length) (hh : lh q l h r) (h68 : q.1 68 l < 0 → q.1 68 l = Int32.ofInt (-1)) (ha : fh h = some a) (hroom : ll.length < 1200) : ∃ M' ow' ll' pk', xZ T0 MI 115 0 [some (vr (some X)), some (vr (some a)), some (vr (some ll[l])), o3] [] M = some (none, M') ∧ Rep T0 X n ad fh fp cl ll' dl aa pk' (atook q L l h r).1 (atook q L l h r).2 M' ow' ∧ stp ext 60 (2 * ll.length + 3540) ow M ow' M' := by
  have n82 : ll.length = nu q 82 0 := H.2.2.2.2.2.2.1.1
  obtain ⟨e61, hh6, e63, hr40⟩ := hh
  obtain ⟨⟨g0, g1, g2, g3, g4⟩, ⟨-, g6, g7, -, -⟩, ⟨lo, lb⟩, -⟩ := lt_g H hl
  rw [e63] at g3
  obtain ⟨f, f2, f3, hac, gh, lk⟩ := hs_acc (T0 := T0) (MI := MI) (r := r) H hh6 hr40 ha
  rw [bq_115_0, Option.bind_some, g3, Option.bind_some, Option.bind_some, hac, cond_true, lk]
  simp (decide := true) (disch := omega) only [Option.bind_some, xasI, xasL, xasR, xin_t, cond_true, cond_false, nI_clamp, k_0, k_1, k_2, k_3, k_4, k_5, k_6, k_40, k_60, k_500, k_10000, pk_mul, nI_add, nI_e0, nI_ee, nI_leI, nI_ltI, xbool0, xbool1, xbn0, xbn1, xb_0, xb_1, reduceIte, one0, Option.isNone_none, ne_eq, not_true_eq_false, not_false_eq_true, if_true, if_false, ite_not, Bool.true_and, Bool.and_true]
  have hN := f3 r hr40
  have nil : stp ext 60 (2 * ll.length + 3540) ow M ow M := stp_w (stp_rf _ _ _) (fun _ h => h) (by omega) (by omega)
  cases hfr : f r with
  | none =>
    rw [hfr] at hN
    have z15 : q.1 15 (40 * h + r) = 0 := hN.1
    have ea : atook q L l h r = (q, L) := by
      unfold atook
      rw [if_neg (fun e => by rcases e.1 with e | e <;> exact absurd (e.symm.trans z15) (by decide))]
    rw [ea]
    refine ⟨M, ow, ll, pk, ?_, H, nil⟩
    rw [bq_115_8, Option.isNone_none, cond_true, bq_115_49]
  | some b =>
    rw [hfr] at hN
    have st := hd_st hN
    obtain ⟨ra, ka, sa, hv, sn, R, K, S, hA, ti⟩ := hN
    rw [bq_115_8, Option.isNone_some, cond_false, bq_115_13, Option.bind_some, st.2, cond_true, c_isGiven st.1]
    simp (decide := true) (disch := omega) only [Option.bind_some, xasI, xasL, xasR, xin_t, cond_true, cond_false, nI_clamp, k_0, k_1, k_2, k_3, k_4, k_5, k_6, k_40, k_60, k_500, k_10000, pk_mul, nI_add, nI_e0, nI_ee, nI_leI, nI_ltI, xbool0, xbool1, xbn0, xbn1, xb_0, xb_1, reduceIte, one0, Option.isNone_none, ne_eq, not_true_eq_false, not_false_eq_true, if_true, if_false, ite_not, Bool.true_and, Bool.and_true]
    rw [bq_115_17]
    by_cases hg : q.1 15 (40 * h + r) = nI 2 ∨ q.1 15 (40 * h + r) = nI 3
    · obtain ⟨⟨v1, v2, v3⟩, vR, vK⟩ := ti.2.2.1 (by rcases hg with h | h <;> (rw [h]; decide))
      obtain ⟨v9, v10⟩ := ti.2.2.2.1 (by rcases hg with h | h; exact Or.inl h; exact Or.inr (Or.inl h))
      obtain ⟨⟨v8, v12⟩, vs1, vs2⟩ := ti.2.2.2.2.1 hg
      have me := c_mvEp (T0 := T0) (MI := MI) (hA_g hA 3 (by decide))
      rw [v3] at me
      have e9 := hA_g hA 9 (by decide)
      rw [v9] at e9
      have e10 := hA_g hA 10 (by decide)
      rw [v10] at e10
      have e12 := hA_g hA 12 (by decide)
      rw [v12] at e12
      rw [tI_t hg, if_neg one0, bq_115_20, Option.bind_some, hA_c hA, cond_true, me]
      simp (decide := true) (disch := omega) only [Option.bind_some, xasI, xasL, xasR, xin_t, cond_true, cond_false, nI_clamp, k_0, k_1, k_2, k_3, k_4, k_5, k_6, k_40, k_60, k_500, k_10000, pk_mul, nI_add, nI_e0, nI_ee, nI_leI, nI_ltI, xbool0, xbool1, xbn0, xbn1, xb_0, xb_1, reduceIte, one0, Option.isNone_none, ne_eq, not_true_eq_false, not_false_eq_true, if_true, if_false, ite_not, Bool.true_and, Bool.and_true]
      rw [bq_115_24, Option.bind_some, g4, Option.bind_some]
      by_cases c1 : q.1 18 (40 * h + r) + nI 1 = q.1 64 l
      · rw [if_pos c1, bq_115_31, Option.bind_some, e9, Option.bind_some, Option.bind_some, g6, Option.bind_some]
        by_cases c2 : q.1 22 (40 * h + r) = q.1 67 l
        · have hH : gheard q l (40 * h + r) := ⟨hg, c1, c2⟩
          obtain ⟨J1, J2⟩ := J (40 * h + r) (by omega) hg
          rw [if_pos c2, bq_115_42, Option.bind_some, e12, Option.bind_some]
          by_cases c3 : q.1 33 (40 * h + r) = 0
          · rw [if_pos c3, bq_115_50, Option.bind_some, g7, Option.bind_some]
            by_cases c4 : q.1 68 l < 0
            · -- anew
              have ea : atook q L l h r = (gtkA q (40 * h + r), L.1, va_up L.2.1 (40 * h + r) (sndL (L.1 (40 * h + r))), L.2.2.1, L.2.2.2) := by
                unfold atook
                rw [if_pos hH, if_neg (Int32.not_le.mpr c4), if_pos c3]
              rw [ea, if_pos (h68 c4)]
              obtain ⟨M2, ow2, e2, hA2, s2⟩ := c_startA (T0 := T0) (MI := MI) (x := q.1 22 (40 * h + r) + nI 1) (o2 := none) hA
              have gv : (gtkA q (40 * h + r)).1 15 (40 * h + r) = nI 2 ∧ (gtkA q (40 * h + r)).1 22 (40 * h + r) = q.1 22 (40 * h + r) + nI 1 ∧ (gtkA q (40 * h + r)).1 23 (40 * h + r) = nI 0 ∧ (gtkA q (40 * h + r)).1 32 (40 * h + r) = nI 1 := by
                unfold gtkA
                simp (decide := true) only [rup_r, and_true, and_false, false_and, true_and, reduceIte, and_self]
              have go : ∀ k i, k ≠ 15 ∧ k ≠ 22 ∧ k ≠ 23 ∧ k ≠ 32 ∨ i ≠ 40 * h + r → (gtkA q (40 * h + r)).1 k i = q.1 k i := fun k i hk => by
                unfold gtkA
                rw [rup_r, if_neg (by omega), rup_r, if_neg (by omega), rup_r, if_neg (by omega), rup_r, if_neg (by omega)]
              obtain ⟨w15, w22, w23, w32⟩ := gv
              obtain ⟨H1, -, -⟩ := Rep_hd (q' := gtkA q (40 * h + r)) (L' := (L.1, va_up L.2.1 (40 * h + r) (sndL (L.1 (40 * h + r))), L.2.2.1, L.2.2.2)) H G.1 hh6 hr40 ha f2 f3 s2 (by
                rw [hfr]
                refine ⟨ra, ka, sa, _, none, R, K, _, hA2, ?_⟩
                unfold tie
                rw [w15, w22, w23, w32, go 21 _ (Or.inl (by decide)), go 33 _ (Or.inl (by decide)), go 30 _ (Or.inl (by decide)), go 31 _ (Or.inl (by decide)), go 16 _ (Or.inl (by decide)), go 17 _ (Or.inl (by decide)), go 18 _ (Or.inl (by decide)), c3]
                exact ⟨⟨rfl, ti.1.2.1, ti.1.2.2⟩, fun e => absurd e (by decide), fun _ => ⟨⟨v1, v2, v3⟩, vR, vK⟩, fun _ => ⟨rfl, rfl⟩, fun _ => ⟨⟨v8, rfl⟩, fun e => absurd e (by decide), fun _ => rfl⟩, fun _ => by rw [vR]; exact (va_up_self _ _ _).symm⟩) (fun k i hk => go k i (Or.inl (by omega))) (fun k p hp _ => go k p (Or.inr hp)) (fun _ _ _ _ => rfl) (fun _ _ => rfl) (fun p hp => va_up_ne _ _ hp) (fun _ _ _ _ => rfl) rfl
              refine ⟨M2, ow2, ll, pk, ?_, H1, stp_w (ext_of s2 (fun t ht => by show t.1 ≠ _; omega) (Nat.le_refl _) (Nat.le_refl _)) (fun _ h => h) (by omega) (by omega)⟩
              rw [bq_115_58, Option.bind_some, e9, Option.bind_some, Option.bind_some, hA_c hA, cond_true, k_1, e2]
              simp (decide := true) (disch := omega) only [Option.bind_some, xasI, xasL, xasR, xin_t, cond_true, cond_false, nI_clamp, k_0, k_1, k_2, k_3, k_4, k_5, k_6, k_40, k_60, k_500, k_10000, pk_mul, nI_add, nI_e0, nI_ee, nI_leI, nI_ltI, xbool0, xbool1, xbn0, xbn1, xb_0, xb_1, reduceIte, one0, Option.isNone_none, ne_eq, not_true_eq_false, not_false_eq_true, if_true, if_false, ite_not, Bool.true_and, Bool.and_true]
              rw [bq_115_68]
            · have c4' : ¬ q.1 68 l = Int32.ofInt (-1) := fun e => c4 (by rw [e]; decide)
              rw [if_neg c4', bq_115_69, Option.bind_some, hA_11 hA, Option.bind_some]
              by_cases c5 : q.1 32 (40 * h + r) = 0
              · have vs := vs1 c5
                obtain ⟨J3, J4⟩ := J2 c5
                obtain ⟨V1, V2, V3⟩ := V (40 * h + r) (by omega)
                obtain ⟨w69, -, -⟩ := V3 hg c5
                have wl := G.2.1 (40 * h + r) (by omega) hg c5
                obtain ⟨lf, lv, lask, ltold, -, lt⟩ := H.2.2.2.2.2.2.1.2 (nu q 29 (40 * h + r)) (by omega)
                rcases lt.2.2.2.2.2 with ⟨-, p2⟩ | ⟨pc, p1, p2⟩
                · exact absurd p2 w69
                have sz := (isPar_c p2).2.2.1
                rw [← J3] at sz
                rw [vs, p1, Option.isNone_some, cond_false, bq_115_76, Option.bind_some, e10, Option.bind_some, Option.bind_some, g7, Option.bind_some]
                by_cases c6 : q.1 68 l = q.1 23 (40 * h + r)
                · rw [if_pos c6.symm, bq_115_88, Option.bind_some, hA_11 hA, Option.bind_some, vs, p1, Option.bind_some, sz, Option.bind_some]
                  -- the holding
                  have st105 : ∀ z : Int32, xbool z = true → ∃ M1, oHA M1 ow (100 + (40 * h + r)) b ra ka sa (upd (upd hv 12 z) 10 (q.1 23 (40 * h + r) + nI 1)) none R K S ∧ stp (off (100 + (40 * h + r))) 0 0 ow M ow M1 ∧ xZ T0 MI 115 105 [some (vr (some X)), some (vr (some a)), some (vr (some ll[l])), some (vr (some b))] [vi z, vr (some b)] M = if z = 0 then xZ T0 MI 115 150 [some (vr (some X)), some (vr (some a)), some (vr (some ll[l])), some (vr (some b))] [] M1 else xZ T0 MI 115 130 [some (vr (some X)), some (vr (some a)), some (vr (some ll[l])), some (vr (some b))] [] M1 := fun z hz => by
                    obtain ⟨M1, x1, hA1, s1⟩ := hA_i hA 12 z (by decide)
                    obtain ⟨M2, x2, hA2, s2⟩ := hA_sn hA1 none
                    obtain ⟨M3, x3, hA3, s3⟩ := hA_i hA2 10 (q.1 23 (40 * h + r) + nI 1) (by decide)
                    refine ⟨M3, hA3, stp_tr (stp_tr (off_0 s1) (off_0 s2)) (off_0 s3), ?_⟩
                    have y10 := hA_g hA2 10 (by decide)
                    have y12 := hA_g hA3 12 (by decide)
                    rw [show upd hv 12 z 10 = hv 10 from rfl, v10] at y10
                    rw [show upd (upd hv 12 z) 10 (q.1 23 (40 * h + r) + nI 1) 12 = z from rfl] at y12
                    rw [bq_115_105, Option.bind_some, hz, cond_true, x1, Option.bind_some, Option.bind_some, x2, Option.bind_some, Option.bind_some, y10, Option.bind_some, Option.bind_some, k_1, x3, Option.bind_some, Option.bind_some, y12, Option.bind_some]
                  have gv : (gtkB q (40 * h + r)).1 32 (40 * h + r) = nI 1 ∧ (gtkB q (40 * h + r)).1 23 (40 * h + r) = q.1 23 (40 * h + r) + nI 1 := by
                    unfold gtkB
                    simp (decide := true) only [rup_r, and_true, and_false, false_and, true_and, reduceIte, and_self]
                  have go : ∀ k i, k ≠ 32 ∧ k ≠ 23 ∨ i ≠ 40 * h + r → (gtkB q (40 * h + r)).1 k i = q.1 k i := fun k i hk => by
                    unfold gtkB
                    rw [rup_r, if_neg (by omega), rup_r, if_neg (by omega)]
                  obtain ⟨w32, w23⟩ := gv
                  by_cases c7 : q.1 28 (40 * h + r) < 0
                  · have c7' : q.1 28 (40 * h + r) = Int32.ofInt (-1) := J4.resolve_right (fun h => h c7)
                    have ea : atook q L l h r = (gnew (rup (gtkB q (40 * h + r)) 33 (40 * h + r) (nI 1)) (nu q 82 0) (nI 6) (nI 0) (nI h) (nI r) (q.1 64 l), L) := by
                      unfold atook
                      rw [if_pos hH, if_pos (Int32.not_lt.mp c4), if_pos ⟨c5, c6⟩, if_pos c7]
                    obtain ⟨M1, hA1, s1, r1⟩ := st105 (nI 1) (by decide)
                    obtain ⟨H1, -, -⟩ := Rep_hd (q' := rup (gtkB q (40 * h + r)) 33 (40 * h + r) (nI 1)) (L' := L) H G.1 hh6 hr40 ha f2 f3 s1 (by
                      rw [hfr]
                      refine ⟨ra, ka, sa, _, none, R, K, S, hA1, ?_⟩
                      unfold tie
                      rw [rup_at, rup_ne _ _ _ _ (k' := 32) (by decide), rup_ne _ _ _ _ (k' := 23) (by decide), w32, w23, rup_ne _ _ _ _ (k' := 15) (by decide), rup_ne _ _ _ _ (k' := 21) (by decide), rup_ne _ _ _ _ (k' := 22) (by decide), rup_ne _ _ _ _ (k' := 30) (by decide), rup_ne _ _ _ _ (k' := 31) (by decide), rup_ne _ _ _ _ (k' := 16) (by decide), rup_ne _ _ _ _ (k' := 17) (by decide), rup_ne _ _ _ _ (k' := 18) (by decide), go 15 _ (Or.inl (by decide)), go 21 _ (Or.inl (by decide)), go 22 _ (Or.inl (by decide)), go 30 _ (Or.inl (by decide)), go 31 _ (Or.inl (by decide)), go 16 _ (Or.inl (by decide)), go 17 _ (Or.inl (by decide)), go 18 _ (Or.inl (by decide))]
                      exact ⟨ti.1, fun e => absurd e (by rcases hg with h | h <;> (rw [h]; decide)), fun _ => ⟨⟨v1, v2, v3⟩, vR, vK⟩, fun _ => ⟨v9, rfl⟩, fun _ => ⟨⟨v8, rfl⟩, fun e => absurd e (by decide), fun _ => rfl⟩, ti.2.2.2.2.2⟩) (fun k i hk => by rw [rup_ne _ _ _ _ (by omega), go k i (Or.inl (by omega))]) (fun k p hp _ => by rw [rup_r, if_neg (fun e => hp e.2), go k p (Or.inr hp)]) (fun _ _ _ _ => rfl) (fun _ _ => rfl) (fun _ _ => rfl) (fun _ _ _ _ => rfl) rfl
                    have zo : ∀ k i, ¬ (15 ≤ k ∧ k ≤ 37) → (rup (gtkB q (40 * h + r)) 33 (40 * h + r) (nI 1)).1 k i = q.1 k i := fun k i hk => by rw [rup_ne _ _ _ _ (by omega), go k i (Or.inl (by omega))]
                    have G1 : gOK (rup (gtkB q (40 * h + r)) 33 (40 * h + r) (nI 1)) := by
                      refine ⟨bds_e G.1 (fun k i hk => zo k i (by omega)), fun p hp x y => ?_, fun z x y => ?_⟩
                      · rw [nu_e (zo 82 0 (by omega))]
                        rw [rup_ne _ _ _ _ (by decide)] at x y
                        rw [go 15 p (Or.inl (by decide))] at x
                        have : nu (rup (gtkB q (40 * h + r)) 33 (40 * h + r) (nI 1)) 29 p = nu q 29 p := nu_e (by rw [rup_ne _ _ _ _ (by decide), go 29 p (Or.inl (by decide))])
                        rw [this]
                        by_cases ep : p = 40 * h + r
                        · rw [ep, w32] at y
                          exact absurd y (by decide)
                        · rw [go 32 p (Or.inr ep)] at y
                          exact G.2.1 p hp x y
                      · rw [nu_e (zo 82 0 (by omega))] at x
                        rw [zo 65 z (by omega), zo 75 z (by omega)]
                        exact G.2.2 z x y
                    obtain ⟨M2, ow2, bb, e2, H2, s2⟩ := R_post (T0 := T0) (MI := MI) (kd := nI 6) (fr := nI h) (to := nI 0) (rg := nI r) (ep := q.1 64 l) (o6 := none) H1 G1.1 hroom G1.2.1 G1.2.2 (by decide)
                    obtain ⟨⟨-, -, -, g3', g4'⟩, -⟩ := lt_g H1 hl
                    rw [zo 63 l (by omega), e63] at g3'
                    rw [zo 64 l (by omega)] at g4'
                    have gh' : xgetI M1 a 3 0 = some (nI h) := by
                      obtain ⟨ar, gv, gs, oh, -⟩ := f2
                      rw [(get_f s1 oh.2.2.2.1.1 (by rw [oh.2.2.1.1]; show 10 + h ≠ _; omega)).1]
                      exact gh
                    rw [ea, ← n82]
                    refine ⟨M2, ow2, _, _, ?_, H2, stp_w (stp_tr (ext_of s1 (fun t ht => by show t.1 ≠ _; omega) (Nat.le_refl _) (Nat.le_refl _)) (ext_of s2 (fun t ht => by omega) (Nat.le_refl _) (Nat.le_refl _))) (fun _ h => h) (by omega) (by omega)⟩
                    rw [c7', if_pos rfl, bq_115_100, k_1, r1, if_neg (by decide), bq_115_130, Option.bind_some, gh', Option.bind_some, Option.bind_some, g3', Option.bind_some, Option.bind_some, g4', Option.bind_some, (ho_c H1.2.1).1, cond_true]
                    rw [show xZ T0 MI 101 0 [some (vr (some X)), some (vi (Int32.ofInt 6)), some (vi (nI h)), some (vi (Int32.ofInt 0)), some (vi (nI r)), some (vi (q.1 64 l)), none] [] M1 = some (some (vr (some bb)), M2) from e2]
                    simp (decide := true) (disch := omega) only [Option.bind_some, xasI, xasL, xasR, xin_t, cond_true, cond_false, nI_clamp, k_0, k_1, k_2, k_3, k_4, k_5, k_6, k_40, k_60, k_500, k_10000, pk_mul, nI_add, nI_e0, nI_ee, nI_leI, nI_ltI, xbool0, xbool1, xbn0, xbn1, xb_0, xb_1, reduceIte, one0, Option.isNone_none, ne_eq, not_true_eq_false, not_false_eq_true, if_true, if_false, ite_not, Bool.true_and, Bool.and_true]
                    rw [bq_115_149, bq_115_150]
                  · have ea : atook q L l h r = (gtkB q (40 * h + r), L) := by
                      unfold atook
                      rw [if_pos hH, if_pos (Int32.not_lt.mp c4), if_pos ⟨c5, c6⟩, if_neg c7]
                    obtain ⟨M1, hA1, s1, r1⟩ := st105 (nI 0) (by decide)
                    obtain ⟨H1, -, -⟩ := Rep_hd (q' := gtkB q (40 * h + r)) (L' := L) H G.1 hh6 hr40 ha f2 f3 s1 (by
                      rw [hfr]
                      refine ⟨ra, ka, sa, _, none, R, K, S, hA1, ?_⟩
                      unfold tie
                      rw [w32, w23, go 33 _ (Or.inl (by decide)), go 15 _ (Or.inl (by decide)), go 21 _ (Or.inl (by decide)), go 22 _ (Or.inl (by decide)), go 30 _ (Or.inl (by decide)), go 31 _ (Or.inl (by decide)), go 16 _ (Or.inl (by decide)), go 17 _ (Or.inl (by decide)), go 18 _ (Or.inl (by decide)), c3]
                      exact ⟨ti.1, fun e => absurd e (by rcases hg with h | h <;> (rw [h]; decide)), fun _ => ⟨⟨v1, v2, v3⟩, vR, vK⟩, fun _ => ⟨v9, rfl⟩, fun _ => ⟨⟨v8, rfl⟩, fun e => absurd e (by decide), fun _ => rfl⟩, ti.2.2.2.2.2⟩) (fun k i hk => go k i (Or.inl (by omega))) (fun k p hp _ => go k p (Or.inr hp)) (fun _ _ _ _ => rfl) (fun _ _ => rfl) (fun _ _ => rfl) (fun _ _ _ _ => rfl) rfl
                    rw [ea]
                    refine ⟨M1, ow, ll, pk, ?_, H1, stp_w (ext_of s1 (fun t ht => by show t.1 ≠ _; omega) (Nat.le_refl _) (Nat.le_refl _)) (fun _ h => h) (by omega) (by omega)⟩
                    rw [if_neg (fun e => c7 (by rw [e]; decide)), bq_115_104, k_0, r1, if_pos (show nI 0 = 0 from rfl), bq_115_150]
                · have ea : atook q L l h r = (q, L) := by
                    unfold atook
                    rw [if_pos hH, if_pos (Int32.not_lt.mp c4), if_neg (fun e => c6 e.2)]
                  rw [ea, if_neg (fun e => c6 e.symm)]
                  exact ⟨M, ow, ll, pk, by rw [bq_115_87], H, nil⟩
              · have ea : atook q L l h r = (q, L) := by
                  unfold atook
                  rw [if_pos hH, if_pos (Int32.not_lt.mp c4), if_neg (fun e => c5 e.1)]
                rw [ea, vs2 c5, Option.isNone_none, cond_true]
                exact ⟨M, ow, ll, pk, by rw [bq_115_87], H, nil⟩
          · have ea : atook q L l h r = (q, L) := by
              unfold atook
              rw [if_pos hH]
              by_cases c4 : 0 ≤ q.1 68 l
              · rw [if_pos c4, if_neg (fun e => J1 c3 e.1)]
              · rw [if_neg c4, if_neg c3]
            rw [ea, if_neg c3]
            exact ⟨M, ow, ll, pk, by rw [bq_115_49], H, nil⟩
        · have ea : atook q L l h r = (q, L) := by
            unfold atook
            rw [if_neg (fun e => c2 e.2.2)]
          rw [ea, if_neg c2]
          exact ⟨M, ow, ll, pk, by rw [bq_115_49], H, nil⟩
      · have ea : atook q L l h r = (q, L) := by
          unfold atook
          rw [if_neg (fun e => c1 e.2.1)]
        rw [ea, if_neg c1]
        exact ⟨M, ow, ll, pk, by rw [bq_115_49], H, nil⟩
    · have ea : atook q L l h r = (q, L) := by
        unfold atook
        rw [if_neg (fun e => hg e.1)]
      rw [ea, tI_f hg, if_pos rfl]
      exact ⟨M, ow, ll, pk, by rw [bq_115_49], H, nil⟩
