/-! giveOn -/
def gvI (q : xrho) : Prop := ∀ p, p < 240 → (q.1 15 p = nI 2 → q.1 33 p = 0) ∧ (q.1 15 p = nI 3 → q.1 33 p = 0 → q.1 32 p = 0) ∧ ((q.1 15 p = nI 2 ∨ q.1 15 p = nI 3) → q.1 32 p = 0 → q.1 69 (nu q 29 p) ≠ Int32.ofInt (-9) ∧ q.1 70 (nu q 29 p) = q.1 16 p ∧ q.1 71 (nu q 29 p) = q.1 17 p)
theorem gga_e (q : xrho) (h r l was : Nat) {k : Nat} (h1 : k ≠ 74) (h2 : k ≠ 76) : (gga q h r l was).1 k = (rup (gpart q h r l) 69 l (q.1 69 was)).1 k := by
  unfold gga
  rw [ck3_ne h1 h2]
theorem nu_m1 {q : xrho} {k i : Nat} (h : q.1 k i = Int32.ofInt (-1)) : nu q k i = 0 := by
  unfold nu
  rw [h]
  rfl
theorem cpZ_at (Z : Nat → KW) (l : Nat) (G : Nat → KW) {c : Nat} (hc : c < 6) : cpZ Z l G 6 (6 * l + c) = G c := by
  unfold cpZ
  rw [if_pos (by omega), show 6 * l + c - 6 * l = c by omega]
theorem cpZ_lo (Z : Nat → KW) (l : Nat) (G : Nat → KW) {i : Nat} (hi : i < 6 * l) : cpZ Z l G 6 i = Z i := by
  unfold cpZ
  rw [if_neg (by omega)]
theorem R_give {T0 MI X n h r a : Nat} {ad : Nat → Nat} {fh fp : Nat → Option Nat} {cl ll dl : List Nat} {aa : Nat → Nat} {pk : Nat → Option Nat} {q : xrho} {L : xLs} {M : xM} {ow : xOw} {o3 o4 : Option xV} (H : Rep T0 X n ad fh fp cl ll dl aa pk q L M ow) (G : gOK q) (V : gvI q) (hh : h < 6) (hr : r < 40) (ha : fh h = some a) (hl : ll.length + cG q h r ≤ 1200) : ∃ M' ow' ll' pk', xZ T0 MI 108 0 [some (vr (some X)), some (vr (some a)), some (vi (nI r)), o3, o4] [] M = some (none, M') ∧ Rep T0 X n ad fh fp cl ll' dl aa pk' (agv q L h r).1 (agv q L h r).2 M' ow' ∧ gOK (agv q L h r).1 ∧ psT ll.length ll'.length ow M ow' M' ∧ ll'.length = ll.length + cG q h r := by
  have B := G.1
  have n82 : ll.length = nu q 82 0 := H.2.2.2.2.2.2.1.1
  obtain ⟨a', f, f1, f2, f3⟩ := H.2.2.1 h hh
  rw [ha] at f1
  cases f1
  obtain ⟨ar, gv, gs, oh, og⟩ := f2
  have hac : xcls M a 3 = true := gC oh.1
  have g0 : xgetI M a 3 0 = some (nI h) := gI oh.1 0 rfl
  have lk := c_look (T0 := T0) (MI := MI) (x := nI r) oh
  rw [ix_i hr (by decide), Option.bind_some] at lk
  have f2 : rHost T0 M ow h a f q := ⟨ar, gv, gs, oh, og⟩
  have hN := f3 r hr
  obtain ⟨V1, V2, V3⟩ := V (40 * h + r) (by omega)
  cases hfr : f r with
  | none =>
    rw [hfr] at hN lk
    have z15 : q.1 15 (40 * h + r) = 0 := hN.1
    have ea : agv q L h r = (q, L) := by
      unfold agv
      rw [if_neg (by rw [z15]; decide), if_neg (by rw [z15]; decide)]
    have ec : cG q h r = 0 := by
      unfold cG
      rw [if_neg (by rw [z15]; decide)]
    rw [ea]
    refine ⟨M, ow, ll, pk, ?_, H, G, psT_rf _ _ _, by rw [ec]; rfl⟩
    rw [bq_108_0, Option.bind_some, hac, cond_true, lk]
    simp (decide := true) (disch := omega) only [Option.bind_some, xasI, xasL, xasR, xin_t, cond_true, cond_false, nI_clamp, k_0, k_1, k_2, k_3, k_4, k_5, k_6, k_40, k_60, k_500, k_10000, pk_mul, nI_add, nI_e0, nI_ee, nI_leI, nI_ltI, xbool0, xbool1, xbn0, xbn1, xb_0, xb_1, reduceIte, one0, Option.isNone_none, ne_eq, not_true_eq_false, not_false_eq_true, if_true, if_false, ite_not, Bool.true_and, Bool.and_true, Option.isNone_none, bq_108_5, bq_108_17]
  | some b =>
    have hN0 := hN
    rw [hfr] at hN lk
    have st := hd_st hN
    have ig := c_isGiven (T0 := T0) (MI := MI) st.1
    by_cases hg : q.1 15 (40 * h + r) = nI 2 ∨ q.1 15 (40 * h + r) = nI 3
    · have ec : cG q h r = 1 := by
        unfold cG
        rw [if_pos hg]
      rw [ec] at hl ⊢
      have hl' : ll.length < 1200 := by omega
      have st0 : xZ T0 MI 108 0 [some (vr (some X)), some (vr (some a)), some (vi (nI r)), o3, o4] [] M = xZ T0 MI 108 18 [some (vr (some X)), some (vr (some a)), some (vi (nI r)), some (vr (some b)), o4] [] M := by
        rw [bq_108_0, Option.bind_some, hac, cond_true, lk]
        simp (decide := true) (disch := omega) only [Option.bind_some, xasI, xasL, xasR, xin_t, cond_true, cond_false, nI_clamp, k_0, k_1, k_2, k_3, k_4, k_5, k_6, k_40, k_60, k_500, k_10000, pk_mul, nI_add, nI_e0, nI_ee, nI_leI, nI_ltI, xbool0, xbool1, xbn0, xbn1, xb_0, xb_1, reduceIte, one0, Option.isNone_none, ne_eq, not_true_eq_false, not_false_eq_true, if_true, if_false, ite_not, Bool.true_and, Bool.and_true, Option.isNone_some, bq_108_5, bq_108_10, st.2, ig]
        rw [tI_t hg, bq_108_14, if_neg one0]
      obtain ⟨ra, ka, sa, hv, sn, R, K, S, hA, ti⟩ := hN
      have v12 := (ti.2.2.2.2.1 hg).1.2
      have e12 := hA_g hA 12 (by decide)
      rw [v12] at e12
      obtain ⟨v123, vR, vK⟩ := ti.2.2.1 (by rcases hg with h | h <;> (rw [h]; decide))
      have v11 := hA_11 hA
      rw [st0]
      by_cases h33 : q.1 33 (40 * h + r) = 0
      · by_cases h32 : q.1 32 (40 * h + r) = 0
        · -- goes again
          have ea : agv q L h r = (gga q h r ll.length (nu q 29 (40 * h + r)), L.1, L.2.1, L.2.2.1, cpZ L.2.2.2 ll.length (fun c => L.2.2.2 (6 * nu q 29 (40 * h + r) + c)) 6) := by
            unfold agv
            rw [n82]
            rcases hg with h2 | h3
            · rw [if_pos h2, if_pos h32]
            · rw [if_neg (by rw [h3]; decide), if_pos h3, if_pos h33]
          obtain ⟨w69, w70, w71⟩ := V3 hg h32
          have wl := G.2.1 (40 * h + r) (by omega) hg h32
          have wl' : nu q 29 (40 * h + r) < ll.length := by omega
          have vs := (ti.2.2.2.2.1 hg).2.1 h32
          obtain ⟨lf, lv, lask, ltold, lo, lt⟩ := H.2.2.2.2.2.2.1.2 (nu q 29 (40 * h + r)) wl'
          rcases lt.2.2.2.2.2 with ⟨-, p2⟩ | ⟨pc, p1, p2⟩
          · exact absurd p2 w69
          rw [p1] at vs
          have H0 := Rep_pk H G.2.1 (some pc)
          have hN1 : rHold M ow (some b) (40 * h + r) q L (va_up pk ll.length (some pc)) := by
            refine rHold_f (by rw [← hfr]; exact hN0) (stp_rf (fun _ => True) ow M) (fun _ _ => trivial) ⟨fun _ _ => rfl, rfl, rfl, fun _ _ => rfl, fun _ _ => va_up_ne _ _ (by omega)⟩
          have np := parcV_len (q := q) (l := nu q 29 (40 * h + r)) (n := nu q 69 (nu q 29 (40 * h + r)))
          have np3 := (isPar_c p2).2.2.2.1
          rw [np] at np3
          have ga := gpart_at q h r ll.length
          have g60 : ∀ k, k ≠ 69 → k ≠ 74 → k ≠ 76 → (gga q h r ll.length (nu q 29 (40 * h + r))).1 k ll.length = (gpart q h r ll.length).1 k ll.length := fun k h1 h2 h3 => by
            rw [gga_e _ _ _ _ _ h2 h3, rup_ne _ _ _ _ h1]
          have g69 : (gga q h r ll.length (nu q 29 (40 * h + r))).1 69 ll.length = q.1 69 (nu q 29 (40 * h + r)) := by
            rw [gga_e _ _ _ _ _ (by decide) (by decide), rup_at]
          have en : nlq q ll.length (gga q h r ll.length (nu q 29 (40 * h + r))) := nlq_ck (nlq_up (gpart_nl q h r ll.length) (by decide))
          obtain ⟨M', ow', bb, r1, r2, r3⟩ := c_part (T0 := T0) (MI := MI) (pc := pc) (o4 := o4) (q' := gga q h r ll.length (nu q 29 (40 * h + r))) (L' := (L.1, L.2.1, L.2.2.1, cpZ L.2.2.2 ll.length (fun c => L.2.2.2 (6 * nu q 29 (40 * h + r) + c)) 6)) H0 B G.2.2 hh hr hl' g0 hN1 hg h32 (by rw [va_up_ne _ _ (by omega)]; exact p1) (va_up_self _ _ _) en ⟨(g60 60 (by decide) (by decide) (by decide)).trans ga.1.1, (g60 61 (by decide) (by decide) (by decide)).trans ga.1.2.1, (g60 62 (by decide) (by decide) (by decide)).trans ga.1.2.2.1, (g60 63 (by decide) (by decide) (by decide)).trans ga.1.2.2.2.1, (g60 64 (by decide) (by decide) (by decide)).trans ga.1.2.2.2.2⟩ ⟨(g60 66 (by decide) (by decide) (by decide)).trans ga.2.1, (g60 67 (by decide) (by decide) (by decide)).trans ga.2.2.1, (g60 68 (by decide) (by decide) (by decide)).trans ga.2.2.2.1⟩ (by
            have e69 : nu (gga q h r ll.length (nu q 29 (40 * h + r))) 69 ll.length = nu q 69 (nu q 29 (40 * h + r)) := by
              unfold nu
              unfold nu at g69
              rw [g69]
            have eP : parcV (gga q h r ll.length (nu q 29 (40 * h + r))) ll.length (nu q 69 (nu q 29 (40 * h + r))) = parcV q (nu q 29 (40 * h + r)) (nu q 69 (nu q 29 (40 * h + r))) := by
              unfold parcV win
              apply List.map_congr_left
              intro j hj
              have hj := List.mem_range.mp hj
              dsimp only
              unfold gga
              rw [ck3_1, if_neg (by decide), if_pos rfl, ck3_1, if_pos rfl, ck3_2, if_pos rfl, cpF_in _ _ _ _ (by omega), cpF_in _ _ _ _ (by omega), cpF_in _ _ _ _ (by omega)]
            rw [e69, eP, g69, (g60 70 (by decide) (by decide) (by decide)).trans ga.2.2.2.2.1, (g60 71 (by decide) (by decide) (by decide)).trans ga.2.2.2.2.2, ← w70, ← w71]
            exact isPar_K p2 (fun c hc => cpZ_at L.2.2.2 ll.length (fun c => L.2.2.2 (6 * nu q 29 (40 * h + r) + c)) hc)) rfl rfl rfl (fun i hi => cpZ_lo L.2.2.2 ll.length (fun c => L.2.2.2 (6 * nu q 29 (40 * h + r) + c)) hi)
          rw [ea]
          refine ⟨M', ow', ll ++ [bb], va_up pk ll.length (some pc), ?_, r2, ?_, ?_, by rw [List.length_append]; rfl⟩
          · rw [bq_108_18, Option.bind_some, e12, Option.bind_some, if_pos h33, bq_108_43, Option.bind_some, v11, Option.bind_some, vs, Option.isNone_some, cond_false]
            exact r1
          · rw [n82] at en ⊢
            exact gOK_nl B (fun p hp x y => Nat.lt_succ_of_lt (G.2.1 p hp x y)) G.2.2 (by omega) en
          · rw [List.length_append]
            exact psT_1 r3 (fun _ h => h) (by decide) (by omega)
        · -- a new part
          have h2 : q.1 15 (40 * h + r) = nI 2 := by
            rcases hg with h2 | h3
            · exact h2
            · exact absurd (V2 h3 h33) h32
          have vs := (ti.2.2.2.2.1 hg).2.2 h32
          have vS := ti.2.2.2.2.2 h2
          have hbn := H.1
          obtain ⟨M1, ow1, pe, s1, pp⟩ := c_packN (T0 := T0) (MI := MI) (g' := 10000 + M.1) (o1 := none) hA (by omega) (fun _ => by omega) (fun z hz => by have := hbn z hz; omega)
          have H0 := Rep_pk H G.2.1 (some M.1)
          obtain ⟨a'', f'', y1, y2, y3⟩ := H0.2.2.1 h hh
          have ef : f'' = f := by
            rw [ha] at y1
            cases y1
            obtain ⟨ar2, gv2, gs2, oh2, -⟩ := y2
            have c1 := oh2.1.symm.trans oh.1
            have : ar2 = ar := by
              injection c1 with c1
              injection c1 with _ c1
              injection c1 with _ c1
              injection c1 with _ c1
              injection c1 with c1 _
              injection c1 with c1
              injection c1 with c1
              injection c1 with c1
            subst this
            have c2 := oh2.2.1.symm.trans oh.2.1
            injection c2 with c2
            injection c2 with _ c2
            injection c2 with _ c2
            injection c2 with c2
            injection c2 with c2
          subst ef
          have run : ∀ M', xZ T0 MI 108 54 [some (vr (some X)), some (vr (some a)), some (vi (nI r)), some (vr (some b)), o4] [] M1 = some (none, M') → xZ T0 MI 108 18 [some (vr (some X)), some (vr (some a)), some (vi (nI r)), some (vr (some b)), o4] [] M = some (none, M') := fun M' e => by
            rw [bq_108_18, Option.bind_some, e12, Option.bind_some, if_pos h33, bq_108_43, Option.bind_some, v11, Option.bind_some, vs, Option.isNone_none, cond_true, bq_108_50, Option.bind_some, hA_c hA, cond_true, pe]
            simp (decide := true) (disch := omega) only [Option.bind_some, xasI, xasL, xasR, xin_t, cond_true, cond_false, nI_clamp, k_0, k_1, k_2, k_3, k_4, k_5, k_6, k_40, k_60, k_500, k_10000, pk_mul, nI_add, nI_e0, nI_ee, nI_leI, nI_ltI, xbool0, xbool1, xbn0, xbn1, xb_0, xb_1, reduceIte, one0, Option.isNone_none, ne_eq, not_true_eq_false, not_false_eq_true, if_true, if_false, ite_not, Bool.true_and, Bool.and_true]
            exact e
          have g01 : xgetI M1 a 3 0 = some (nI h) := by
            rw [(get_f s1 oh.2.2.2.1.1 (by rw [oh.2.2.1.1]; show 10 + h ≠ _; omega)).1]
            exact g0
          by_cases hS0 : (L.2.1 (40 * h + r)).length = 0
          · -- the end
            rw [vS, if_pos hS0] at pp
            obtain ⟨hA1, kk, op, okk⟩ := pp
            have ea : agv q L h r = (gends (rup q 15 (40 * h + r) (nI 3)) h r ll.length, L.1, L.2.1, L.2.2.1, cpZ L.2.2.2 ll.length (fun c => L.2.2.1 (6 * (40 * h + r) + c)) 6) := by
              unfold agv
              rw [if_pos h2, if_neg h32, if_pos hS0, n82]
            have eq1 : gends (rup q 15 (40 * h + r) (nI 3)) h r ll.length = rup (gpart (rup (rup (rup (rup q 15 (40 * h + r) (nI 3)) 29 (40 * h + r) (nI ll.length)) 28 (40 * h + r) (Int32.ofInt (-1))) 32 (40 * h + r) (nI 0)) h r ll.length) 69 ll.length (Int32.ofInt (-1)) := by
              unfold gends
              rw [gpart_cm _ (Or.inr (Or.inr (Or.inl rfl))), gpart_cm _ (Or.inl rfl), gpart_cm _ (Or.inr (Or.inl rfl)), rup_cm (k := 69) (k' := 29) _ (by decide), rup_cm (k := 69) (k' := 28) _ (by decide), rup_cm (k := 69) (k' := 32) _ (by decide)]
            generalize hq1 : rup (rup (rup (rup q 15 (40 * h + r) (nI 3)) 29 (40 * h + r) (nI ll.length)) 28 (40 * h + r) (Int32.ofInt (-1))) 32 (40 * h + r) (nI 0) = q1 at eq1
            have qo : ∀ k i, k ≠ 15 → k ≠ 28 → k ≠ 29 → k ≠ 32 → q1.1 k i = q.1 k i := fun k i h1 h2 h3 h4 => by
              rw [← hq1, rup_ne _ _ _ _ h4, rup_ne _ _ _ _ h2, rup_ne _ _ _ _ h3, rup_ne _ _ _ _ h1]
            have qp : ∀ k p, p ≠ 40 * h + r → q1.1 k p = q.1 k p := fun k p hp => by
              rw [← hq1, rup_r, if_neg (fun e => hp e.2), rup_r, if_neg (fun e => hp e.2), rup_r, if_neg (fun e => hp e.2), rup_r, if_neg (fun e => hp e.2)]
            have q15 : q1.1 15 (40 * h + r) = nI 3 := by
              rw [← hq1, rup_ne _ _ _ _ (by decide), rup_ne _ _ _ _ (by decide), rup_ne _ _ _ _ (by decide), rup_at]
            have q29 : q1.1 29 (40 * h + r) = nI ll.length := by
              rw [← hq1, rup_ne _ _ _ _ (by decide), rup_ne _ _ _ _ (by decide), rup_at]
            have q32 : q1.1 32 (40 * h + r) = 0 := by
              rw [← hq1, rup_at]
              rfl
            have q2 : q1.2 = q.2 := by rw [← hq1]; rfl
            have n29 : nu q1 29 (40 * h + r) = ll.length := by
              unfold nu
              rw [q29, nI_clamp (by omega)]
            have hN1 : rHold M1 ow1 (some b) (40 * h + r) q1 L (va_up pk ll.length (some M.1)) := by
              refine ⟨ra, ka, sa, _, some M.1, R, K, _, hA1, ?_⟩
              unfold tie
              rw [q15, q32, n29, qo 30 _ (by decide) (by decide) (by decide) (by decide), qo 31 _ (by decide) (by decide) (by decide) (by decide), qo 16 _ (by decide) (by decide) (by decide) (by decide), qo 17 _ (by decide) (by decide) (by decide) (by decide), qo 18 _ (by decide) (by decide) (by decide) (by decide), qo 21 _ (by decide) (by decide) (by decide) (by decide), qo 22 _ (by decide) (by decide) (by decide) (by decide), qo 23 _ (by decide) (by decide) (by decide) (by decide), qo 33 _ (by decide) (by decide) (by decide) (by decide), va_up_self]
              exact ⟨⟨rfl, ti.1.2.1, ti.1.2.2⟩, fun e => absurd e (by decide), fun _ => ⟨v123, vR, vK⟩, fun _ => ti.2.2.2.1 (Or.inl h2), fun _ => ⟨(ti.2.2.2.2.1 hg).1, fun _ => rfl, fun e => absurd rfl e⟩, fun e => absurd e (by decide)⟩
            obtain ⟨H1, -, -⟩ := Rep_hd (q' := q1) (L' := L) H0 B hh hr ha f2 y3 s1 (by rw [hfr]; exact hN1) (fun k i hk => qo k i (by omega) (by omega) (by omega) (by omega)) (fun k p hp _ => qp k p hp) (fun k i _ _ => by rw [q2]) (fun _ _ => rfl) (fun _ _ => rfl) (fun _ _ _ _ => rfl) rfl
            have B1 : bds q1 := bds_e B (fun k i hk => qo k i (by omega) (by omega) (by omega) (by omega))
            have n82' : nu q1 82 0 = nu q 82 0 := nu_e (qo 82 0 (by decide) (by decide) (by decide) (by decide))
            have F1 : frL q1 := fun l x y => by
              rw [n82'] at x
              rw [qo 65 l (by decide) (by decide) (by decide) (by decide), qo 75 l (by decide) (by decide) (by decide) (by decide)]
              exact G.2.2 l x y
            have ga := gpart_at q1 h r ll.length
            have en : nlq q1 ll.length (rup (gpart q1 h r ll.length) 69 ll.length (Int32.ofInt (-1))) := nlq_up (gpart_nl q1 h r ll.length) (by decide)
            have e69 : (rup (gpart q1 h r ll.length) 69 ll.length (Int32.ofInt (-1))).1 69 ll.length = Int32.ofInt (-1) := rup_at _ _ _ _
            have go : ∀ k, k ≠ 69 → (rup (gpart q1 h r ll.length) 69 ll.length (Int32.ofInt (-1))).1 k ll.length = (gpart q1 h r ll.length).1 k ll.length := fun k hk => by rw [rup_ne _ _ _ _ hk]
            obtain ⟨M', ow', bb, r1, r2, r3⟩ := c_part (T0 := T0) (MI := MI) (pc := M.1) (o4 := o4) (q' := rup (gpart q1 h r ll.length) 69 ll.length (Int32.ofInt (-1))) (L' := (L.1, L.2.1, L.2.2.1, cpZ L.2.2.2 ll.length (fun c => L.2.2.1 (6 * (40 * h + r) + c)) 6)) H1 B1 F1 hh hr hl' g01 hN1 (Or.inr q15) q32 (by rw [n29, va_up_self]) (va_up_self _ _ _) en ⟨(go 60 (by decide)).trans ga.1.1, (go 61 (by decide)).trans ga.1.2.1, (go 62 (by decide)).trans ga.1.2.2.1, (go 63 (by decide)).trans ga.1.2.2.2.1, (go 64 (by decide)).trans ga.1.2.2.2.2⟩ ⟨(go 66 (by decide)).trans ga.2.1, (go 67 (by decide)).trans ga.2.2.1, (go 68 (by decide)).trans ga.2.2.2.1⟩ (by
              rw [nu_m1 e69, e69, (go 70 (by decide)).trans ga.2.2.2.2.1, (go 71 (by decide)).trans ga.2.2.2.2.2, qo 16 _ (by decide) (by decide) (by decide) (by decide), qo 17 _ (by decide) (by decide) (by decide) (by decide), ← v123.1, ← v123.2.1]
              refine Or.inr ⟨rfl, rfl, kk, op, oKept_K okk (fun c hc => ?_)⟩
              show cpZ L.2.2.2 ll.length (fun c => L.2.2.1 (6 * (40 * h + r) + c)) 6 (6 * ll.length + c) = K c
              rw [cpZ_at _ _ _ hc, vK c hc]) rfl rfl rfl (fun i hi => cpZ_lo L.2.2.2 ll.length (fun c => L.2.2.1 (6 * (40 * h + r) + c)) hi)
            rw [ea, eq1]
            refine ⟨M', ow', ll ++ [bb], va_up pk ll.length (some M.1), run M' r1, r2, ?_, ?_, by rw [List.length_append]; rfl⟩
            · rw [n82, ← n82'] at en ⊢
              refine gOK_nl B1 (fun p hp x y => ?_) F1 (by omega) en
              by_cases e : p = 40 * h + r
              · subst e
                omega
              · rw [nu_e (qp 29 p e), n82']
                rw [qp 15 p e] at x
                rw [qp 32 p e] at y
                exact Nat.lt_succ_of_lt (G.2.1 p hp x y)
            · rw [List.length_append]
              exact psT_1 (stp_tr (stp_w s1 (fun t ht => by rcases ht with h | h <;> (show t.1 ≠ _; omega)) (Nat.le_refl _) (Nat.le_refl _)) r3) (fun _ h => h) (by decide) (by omega)
          · -- keys go
            rw [vS, if_neg hS0, vR] at pp
            obtain ⟨hA1, op⟩ := pp
            generalize hac2 : gvA (L.1 (40 * h + r)) (L.2.1 (40 * h + r)) = acc at hA1 op
            have ea : agv q L h r = (ggv q h r ll.length acc, L.1, va_up L.2.1 (40 * h + r) (rstS (acc.map Prod.fst) (L.2.1 (40 * h + r))), L.2.2.1, L.2.2.2) := by
              unfold agv
              rw [if_pos h2, if_neg h32, if_neg hS0, n82, hac2]
            have eq1 : ggv q h r ll.length acc = rup (wrP (gpart (rup (rup (rup q 29 (40 * h + r) (nI ll.length)) 28 (40 * h + r) (nI acc.length)) 32 (40 * h + r) (nI 0)) h r ll.length) ll.length acc) 69 ll.length (nI acc.length) := by
              unfold ggv
              rw [gpart_cm _ (Or.inr (Or.inr (Or.inl rfl))), gpart_cm _ (Or.inl rfl), gpart_cm _ (Or.inr (Or.inl rfl)), wrP_cm _ (by decide) (by decide), wrP_cm _ (by decide) (by decide), wrP_cm _ (by decide) (by decide), rup_cm (k := 69) (k' := 29) _ (by decide), rup_cm (k := 69) (k' := 28) _ (by decide), rup_cm (k := 69) (k' := 32) _ (by decide)]
            generalize hq1 : rup (rup (rup q 29 (40 * h + r) (nI ll.length)) 28 (40 * h + r) (nI acc.length)) 32 (40 * h + r) (nI 0) = q1 at eq1
            have qo : ∀ k i, k ≠ 28 → k ≠ 29 → k ≠ 32 → q1.1 k i = q.1 k i := fun k i h2 h3 h4 => by
              rw [← hq1, rup_ne _ _ _ _ h4, rup_ne _ _ _ _ h2, rup_ne _ _ _ _ h3]
            have qp : ∀ k p, p ≠ 40 * h + r → q1.1 k p = q.1 k p := fun k p hp => by
              rw [← hq1, rup_r, if_neg (fun e => hp e.2), rup_r, if_neg (fun e => hp e.2), rup_r, if_neg (fun e => hp e.2)]
            have q15 : q1.1 15 (40 * h + r) = nI 2 := by
              rw [qo 15 _ (by decide) (by decide) (by decide)]; exact h2
            have q29 : q1.1 29 (40 * h + r) = nI ll.length := by
              rw [← hq1, rup_ne _ _ _ _ (by decide), rup_ne _ _ _ _ (by decide), rup_at]
            have q32 : q1.1 32 (40 * h + r) = 0 := by
              rw [← hq1, rup_at]
              rfl
            have q2 : q1.2 = q.2 := by rw [← hq1]; rfl
            have n29 : nu q1 29 (40 * h + r) = ll.length := by
              unfold nu
              rw [q29, nI_clamp (by omega)]
            have hN1 : rHold M1 ow1 (some b) (40 * h + r) q1 (L.1, va_up L.2.1 (40 * h + r) (rstS (acc.map Prod.fst) (L.2.1 (40 * h + r))), L.2.2.1, L.2.2.2) (va_up pk ll.length (some M.1)) := by
              refine ⟨ra, ka, sa, _, some M.1, _, K, _, hA1, ?_⟩
              unfold tie
              rw [q15, q32, n29, qo 30 _ (by decide) (by decide) (by decide), qo 31 _ (by decide) (by decide) (by decide), qo 16 _ (by decide) (by decide) (by decide), qo 17 _ (by decide) (by decide) (by decide), qo 18 _ (by decide) (by decide) (by decide), qo 21 _ (by decide) (by decide) (by decide), qo 22 _ (by decide) (by decide) (by decide), qo 23 _ (by decide) (by decide) (by decide), qo 33 _ (by decide) (by decide) (by decide), va_up_self]
              exact ⟨⟨ti.1.1.trans h2, ti.1.2.1, ti.1.2.2⟩, fun e => absurd e (by decide), fun _ => ⟨v123, rfl, vK⟩, fun _ => ti.2.2.2.1 (Or.inl h2), fun _ => ⟨(ti.2.2.2.2.1 hg).1, fun _ => rfl, fun e => absurd rfl e⟩, fun _ => (va_up_self _ _ _).symm⟩
            obtain ⟨H1, -, -⟩ := Rep_hd (q' := q1) (L' := (L.1, va_up L.2.1 (40 * h + r) (rstS (acc.map Prod.fst) (L.2.1 (40 * h + r))), L.2.2.1, L.2.2.2)) H0 B hh hr ha f2 y3 s1 (by rw [hfr]; exact hN1) (fun k i hk => qo k i (by omega) (by omega) (by omega)) (fun k p hp _ => qp k p hp) (fun k i _ _ => by rw [q2]) (fun _ _ => rfl) (fun p hp => va_up_ne _ _ hp) (fun _ _ _ _ => rfl) rfl
            have B1 : bds q1 := bds_e B (fun k i hk => qo k i (by omega) (by omega) (by omega))
            have n82' : nu q1 82 0 = nu q 82 0 := nu_e (qo 82 0 (by decide) (by decide) (by decide))
            have F1 : frL q1 := fun l x y => by
              rw [n82'] at x
              rw [qo 65 l (by decide) (by decide) (by decide), qo 75 l (by decide) (by decide) (by decide)]
              exact G.2.2 l x y
            have ga := gpart_at q1 h r ll.length
            have en : nlq q1 ll.length (rup (wrP (gpart q1 h r ll.length) ll.length acc) 69 ll.length (nI acc.length)) := nlq_up (nlq_wr (gpart_nl q1 h r ll.length)) (by decide)
            have e69 : (rup (wrP (gpart q1 h r ll.length) ll.length acc) 69 ll.length (nI acc.length)).1 69 ll.length = nI acc.length := rup_at _ _ _ _
            have go : ∀ k, k ≠ 69 → k ≠ 74 → k ≠ 76 → (rup (wrP (gpart q1 h r ll.length) ll.length acc) 69 ll.length (nI acc.length)).1 k ll.length = (gpart q1 h r ll.length).1 k ll.length := fun k hk h4 h6 => by rw [rup_ne _ _ _ _ hk, wrP_1, if_neg h6, if_neg h4]
            have al : acc.length ≤ 3 := by
              obtain ⟨_, _, _, _, _, _, _, _, _, _, x, -⟩ := op
              exact x
            obtain ⟨M', ow', bb, r1, r2, r3⟩ := c_part (T0 := T0) (MI := MI) (pc := M.1) (o4 := o4) (q' := rup (wrP (gpart q1 h r ll.length) ll.length acc) 69 ll.length (nI acc.length)) (L' := (L.1, va_up L.2.1 (40 * h + r) (rstS (acc.map Prod.fst) (L.2.1 (40 * h + r))), L.2.2.1, L.2.2.2)) H1 B1 F1 hh hr hl' g01 hN1 (Or.inl q15) q32 (by rw [n29, va_up_self]) (va_up_self _ _ _) en ⟨(go 60 (by decide) (by decide) (by decide)).trans ga.1.1, (go 61 (by decide) (by decide) (by decide)).trans ga.1.2.1, (go 62 (by decide) (by decide) (by decide)).trans ga.1.2.2.1, (go 63 (by decide) (by decide) (by decide)).trans ga.1.2.2.2.1, (go 64 (by decide) (by decide) (by decide)).trans ga.1.2.2.2.2⟩ ⟨(go 66 (by decide) (by decide) (by decide)).trans ga.2.1, (go 67 (by decide) (by decide) (by decide)).trans ga.2.2.1, (go 68 (by decide) (by decide) (by decide)).trans ga.2.2.2.1⟩ (by
              have n69 : nu (rup (wrP (gpart q1 h r ll.length) ll.length acc) 69 ll.length (nI acc.length)) 69 ll.length = acc.length := by
                unfold nu
                rw [e69, nI_clamp (by omega)]
              have eP : parcV (rup (wrP (gpart q1 h r ll.length) ll.length acc) 69 ll.length (nI acc.length)) ll.length acc.length = acc := by
                unfold parcV win
                apply List.ext_getElem
                · rw [List.length_map, List.length_range]
                · intro j h1 h2
                  rw [List.getElem_map, List.getElem_range]
                  show ((rup (wrP (gpart q1 h r ll.length) ll.length acc) 69 ll.length (nI acc.length)).1 74 (3 * ll.length + j), (rup (wrP (gpart q1 h r ll.length) ll.length acc) 69 ll.length (nI acc.length)).1 76 (3 * ll.length + j), (wrP (gpart q1 h r ll.length) ll.length acc).2 77 (3 * ll.length + j)) = acc[j]
                  rw [rup_ne _ _ _ _ (by decide), rup_ne _ _ _ _ (by decide), wrP_1, if_neg (by decide), if_pos rfl, wrP_1, if_pos rfl, wrP_2, if_pos rfl, wrF_in _ _ _ (by rw [List.length_map]; exact h2), wrF_in _ _ _ (by rw [List.length_map]; exact h2), wrF_in _ _ _ (by rw [List.length_map]; exact h2), List.getElem_map, List.getElem_map, List.getElem_map]
              rw [n69, eP, e69, (go 70 (by decide) (by decide) (by decide)).trans ga.2.2.2.2.1, (go 71 (by decide) (by decide) (by decide)).trans ga.2.2.2.2.2, qo 16 _ (by decide) (by decide) (by decide), qo 17 _ (by decide) (by decide) (by decide), ← v123.1, ← v123.2.1]
              exact Or.inl ⟨rfl, none, op⟩) rfl rfl rfl (fun _ _ => rfl)
            rw [ea, eq1]
            refine ⟨M', ow', ll ++ [bb], va_up pk ll.length (some M.1), run M' r1, r2, ?_, ?_, by rw [List.length_append]; rfl⟩
            · rw [n82, ← n82'] at en ⊢
              refine gOK_nl B1 (fun p hp x y => ?_) F1 (by omega) en
              by_cases e : p = 40 * h + r
              · subst e
                omega
              · rw [nu_e (qp 29 p e), n82']
                rw [qp 15 p e] at x
                rw [qp 32 p e] at y
                exact Nat.lt_succ_of_lt (G.2.1 p hp x y)
            · rw [List.length_append]
              exact psT_1 (stp_tr (stp_w s1 (fun t ht => by rcases ht with h | h <;> (show t.1 ≠ _; omega)) (Nat.le_refl _) (Nat.le_refl _)) r3) (fun _ h => h) (by decide) (by omega)
      · -- DONE goes
        have h3 : q.1 15 (40 * h + r) = nI 3 := by
          rcases hg with h2 | h3
          · exact absurd (V1 h2) h33
          · exact h3
        have ea : agv q L h r = (gnew q ll.length (nI 6) (nI 0) (nI h) (nI r) (q.1 18 (40 * h + r) + nI 1), L) := by
          unfold agv
          rw [if_neg (by rw [h3]; decide), if_pos h3, if_neg h33, n82]
        have me := c_mvEp (T0 := T0) (MI := MI) (hA_g hA 3 (by decide))
        obtain ⟨M', ow', bb, e1, H1, s1⟩ := R_post (T0 := T0) (MI := MI) (kd := nI 6) (fr := nI h) (to := nI 0) (rg := nI r) (ep := q.1 18 (40 * h + r) + nI 1) (o6 := none) H B hl' G.2.1 G.2.2 (by decide)
        rw [ea]
        refine ⟨M', ow', ll ++ [bb], va_up pk ll.length none, ?_, H1, ?_, ?_, by rw [List.length_append]; rfl⟩
        · rw [v123.2.2] at me
          rw [bq_108_18, Option.bind_some, e12, Option.bind_some, if_neg h33, bq_108_25, Option.bind_some, g0, Option.bind_some, Option.bind_some, hA_c hA, cond_true, me]
          simp (decide := true) (disch := omega) only [Option.bind_some, xasI, xasL, xasR, xin_t, cond_true, cond_false, nI_clamp, k_0, k_1, k_2, k_3, k_4, k_5, k_6, k_40, k_60, k_500, k_10000, pk_mul, nI_add, nI_e0, nI_ee, nI_leI, nI_ltI, xbool0, xbool1, xbn0, xbn1, xb_0, xb_1, reduceIte, one0, Option.isNone_none, ne_eq, not_true_eq_false, not_false_eq_true, if_true, if_false, ite_not, Bool.true_and, Bool.and_true]
          rw [bq_108_38, (ho_c H.2.1).1, cond_true, e1]
          simp (decide := true) (disch := omega) only [Option.bind_some, xasI, xasL, xasR, xin_t, cond_true, cond_false, nI_clamp, k_0, k_1, k_2, k_3, k_4, k_5, k_6, k_40, k_60, k_500, k_10000, pk_mul, nI_add, nI_e0, nI_ee, nI_leI, nI_ltI, xbool0, xbool1, xbn0, xbn1, xb_0, xb_1, reduceIte, one0, Option.isNone_none, ne_eq, not_true_eq_false, not_false_eq_true, if_true, if_false, ite_not, Bool.true_and, Bool.and_true]
          rw [bq_108_41]
        · rw [n82]
          exact gOK_new G (by omega)
        · rw [List.length_append]
          exact psT_1 s1 (fun t ht => by rcases ht with h | h <;> omega) (by decide) (by omega)
    · have ea : agv q L h r = (q, L) := by
        unfold agv
        rw [if_neg (fun e => hg (Or.inl e)), if_neg (fun e => hg (Or.inr e))]
      have ec : cG q h r = 0 := by
        unfold cG
        rw [if_neg hg]
      rw [ea]
      refine ⟨M, ow, ll, pk, ?_, H, G, psT_rf _ _ _, by rw [ec]; rfl⟩
      rw [bq_108_0, Option.bind_some, hac, cond_true, lk]
      simp (decide := true) (disch := omega) only [Option.bind_some, xasI, xasL, xasR, xin_t, cond_true, cond_false, nI_clamp, k_0, k_1, k_2, k_3, k_4, k_5, k_6, k_40, k_60, k_500, k_10000, pk_mul, nI_add, nI_e0, nI_ee, nI_leI, nI_ltI, xbool0, xbool1, xbn0, xbn1, xb_0, xb_1, reduceIte, one0, Option.isNone_none, ne_eq, not_true_eq_false, not_false_eq_true, if_true, if_false, ite_not, Bool.true_and, Bool.and_true, Option.isNone_some, bq_108_5, bq_108_10, st.2, ig]
      rw [tI_f hg, bq_108_14, if_pos rfl, bq_108_17]
