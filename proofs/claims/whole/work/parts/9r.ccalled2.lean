/-! CALL: serving -/
theorem doS_at (b : Bool) (st : Int32) (S : Nat → List Int32) (p : Nat) (key : Int32) : doS b st S p key p = if b = true ∧ st = nI 2 then addK (S p) key else S p := by
  unfold doS
  by_cases c : b = true ∧ st = nI 2
  · rw [if_pos c, if_pos c, va_up_self]
  · rw [if_neg c, if_neg c]
theorem doS_ne (b : Bool) (st : Int32) (S : Nat → List Int32) (p : Nat) (key : Int32) {p' : Nat} (h : p' ≠ p) : doS b st S p key p' = S p' := by
  unfold doS
  split
  · exact va_up_ne _ _ h
  · rfl
theorem gdone_v (q : xrho) (i : Nat) (c count h r e : Int32) : ((gdone q i c count h r e).1 83 i = c ∧ (gdone q i c count h r e).1 84 i = count ∧ (gdone q i c count h r e).1 85 i = h) ∧ (gdone q i c count h r e).1 86 i = r ∧ (gdone q i c count h r e).1 87 i = e ∧ (gdone q i c count h r e).1 88 0 = nI (i + 1) := by
  unfold gdone
  simp (decide := true) only [rup_r, and_true, and_false, false_and, true_and, reduceIte, and_self]
theorem gdone_o (q : xrho) (i : Nat) (c count h r e : Int32) {k j : Nat} (hk : ¬ (83 ≤ k ∧ k ≤ 87) ∨ j ≠ i) (h88 : k ≠ 88) : (gdone q i c count h r e).1 k j = q.1 k j := by
  unfold gdone
  rw [rup_ne _ _ _ _ h88, rup_r, if_neg (by omega), rup_r, if_neg (by omega), rup_r, if_neg (by omega), rup_r, if_neg (by omega), rup_r, if_neg (by omega)]
theorem R_serve {T0 MI X n l h r b c nn : Nat} {ad : Nat → Nat} {fh fp : Nat → Option Nat} {cl ll dl : List Nat} {aa : Nat → Nat} {pk : Nat → Option Nat} {q : xrho} {L : xLs} {M : xM} {ow : xOw} {f : Nat → Option Nat} {a : Nat} {o4 o5 : Option xV} (H : Rep T0 X n ad fh fp cl ll dl aa pk q L M ow) (G : gOK q) (hl : l < ll.length) (hh : lh q l h r) (e62 : q.1 62 l = nI c) (hc : c < nu q 45 0) (e66 : q.1 66 l = nI nn) (hn : nn < nu q 46 c) (h47 : isN q 47 (60 * c + nn) 4) (hS : (addK (L.2.1 (40 * h + r)) (q.1 48 (60 * c + nn))).length < 500) (hroom : ll.length < 1200) (h88 : nu q 88 0 < 1900) (ha : fh h = some a) (f2 : rHost T0 M ow h a f q) (f3 : ∀ r', r' < 40 → rHold M ow (f r') (40 * h + r') q L pk) (hfr : f r = some b) (hg : gserv q (40 * h + r) (q.1 64 l)) : ∃ M' ow' ll' dl' pk', xZ T0 MI 111 0 [some (vr (some X)), some (vr (some b)), some (vr (some ll[l])), some (vr (some (aa (60 * c + nn)))), o4, o5] [] M = some (none, M') ∧ Rep T0 X n ad fh fp cl ll' dl' aa pk' (acall q L l h r).1 (acall q L l h r).2 M' ow' ∧ stp ext 4 (2 * ll.length + 4900) ow M ow' M' := by
  have n82 : ll.length = nu q 82 0 := H.2.2.2.2.2.2.1.1
  have hh0 := hh
  obtain ⟨e61, hh6, e63, hr40⟩ := hh
  obtain ⟨⟨g0, g1, g2, g3, g4⟩, ⟨g5, -⟩, ⟨lo, lb⟩, -⟩ := lt_g H hl
  rw [e62] at g1
  rw [e66] at g5
  have hc6 : c < 6 := by have := G.1.1.2; omega
  have n62 : nu q 62 l = c := by unfold nu; rw [e62, nI_clamp (by omega)]
  have b46 := (G.1.2.1 c hc6).2
  have n66 : nu q 66 l = nn := by unfold nu; rw [e66, nI_clamp (by omega)]
  have hN := f3 r hr40
  have hN0 := hN
  rw [hfr] at hN
  have h15 : q.1 15 (40 * h + r) ≠ 0 := fun e => by
    rcases hg.1 with e2 | e2 <;> exact absurd (e2.symm.trans e) (by decide)
  obtain ⟨ra, ka, sa, hv, sn, R, K, S, hA, ti⟩ := hN
  obtain ⟨v123, vR, vK⟩ := ti.2.2.1 h15
  obtain ⟨x, ex, hx⟩ := oK_find (T0 := T0) (MI := MI) (count := nI nn) (o3 := none) (o4 := none) hA.2.2.2.2.1 hc6
  rw [vK c hc6] at hx
  have nil : ∀ x y, stp ext x y ow M ow M := fun x y => stp_w (stp_rf _ _ _) (fun _ h => h) (Nat.zero_le _) (Nat.zero_le _)
  have st0 : xZ T0 MI 111 0 [some (vr (some X)), some (vr (some b)), some (vr (some ll[l])), some (vr (some (aa (60 * c + nn)))), o4, o5] [] M = xZ T0 MI 111 15 [some (vr (some X)), some (vr (some b)), some (vr (some ll[l])), some (vr (some (aa (60 * c + nn)))), o4, o5] [vi x] M := by
    rw [bq_111_0, Option.bind_some, hA_5 hA, Option.bind_some, Option.bind_some, g1, Option.bind_some, Option.bind_some, g5, Option.bind_some, Option.bind_some, oK_cls hA.2.2.2.2.1, cond_true, ex]
    simp (decide := true) (disch := omega) only [Option.bind_some, xasI, xasL, xasR, xin_t, cond_true, cond_false, nI_clamp, k_0, k_1, k_2, k_3, k_4, k_5, k_6, k_40, k_60, k_500, k_10000, pk_mul, nI_add, nI_e0, nI_ee, nI_leI, nI_ltI, xbool0, xbool1, xbn0, xbn1, xb_0, xb_1, reduceIte, one0, Option.isNone_none, ne_eq, not_true_eq_false, not_false_eq_true, if_true, if_false, ite_not, Bool.true_and, Bool.and_true]
  rw [st0, bq_111_15]
  unfold acall
  dsimp only
  rw [if_pos hg, n62, n66]
  cases hy : lkp Prod.fst (nI nn) (L.2.2.1 (6 * (40 * h + r) + c)) with
  | some y =>
    rw [hy] at hx
    obtain ⟨j, va, wa, fv, fw, rfl, hj, -⟩ := hx
    obtain ⟨M', ow', ll', pk', e1, H1, s1⟩ := R_ansr (T0 := T0) (MI := MI) (o3 := some (vr (some (aa (60 * c + nn))))) (o4 := o4) (o5 := o5) H G hl hh0 e62 hc6 e66 hroom (by rw [← hfr]; exact hN0) h15 hy
    refine ⟨M', ow', ll', dl, pk', ?_, H1, stp_w s1 (fun _ h => h) (by omega) (by omega)⟩
    rw [if_pos (le_0 (by omega))]
    exact e1
  | none =>
    rw [hy] at hx
    have xn : ¬ 0 ≤ x := Int32.not_le.mpr hx
    have bl := oK_below (T0 := T0) (MI := MI) (count := nI nn) hA.2.2.2.2.1 hc6
    rw [vK c hc6] at bl
    rw [if_neg xn, bq_111_18, Option.bind_some, hA_5 hA, Option.bind_some, Option.bind_some, g1, Option.bind_some, Option.bind_some, g5, Option.bind_some, Option.bind_some, oK_cls hA.2.2.2.2.1, cond_true, bl]
    simp (decide := true) (disch := omega) only [Option.bind_some, xasI, xasL, xasR, xin_t, cond_true, cond_false, nI_clamp, k_0, k_1, k_2, k_3, k_4, k_5, k_6, k_40, k_60, k_500, k_10000, pk_mul, nI_add, nI_e0, nI_ee, nI_leI, nI_ltI, xbool0, xbool1, xbn0, xbn1, xb_0, xb_1, reduceIte, one0, Option.isNone_none, ne_eq, not_true_eq_false, not_false_eq_true, if_true, if_false, ite_not, Bool.true_and, Bool.and_true]
    rw [bq_111_33]
    by_cases ho : oldK (L.2.2.1 (6 * (40 * h + r) + c)) (nI nn)
    · rw [tI_t ho, if_neg one0, if_pos rfl]
      exact ⟨M, ow, ll, dl, pk, by rw [bq_111_36], H, nil _ _⟩
    · rw [tI_f ho, if_pos rfl, if_neg (by decide)]
      -- performing
      obtain ⟨sg, ⟨ak, ako, akb⟩, -⟩ := H.2.2.2.2.2.1 c nn hc hn
      have isA : isAsk M (aa (60 * c + nn)) nn (nu q 47 (60 * c + nn)) (q.1 48 (60 * c + nn)) (q.2 51 (60 * c + nn)) (q.2 52 (60 * c + nn)) := ⟨_, _, _, _, by rw [← h47.1]; exact ak⟩
      obtain ⟨M1, ow1, p1, hA1, s1⟩ := c_perform (T0 := T0) (MI := MI) (c := c) (o3 := none) (o4 := none) (o5 := none) (o6 := none) (o7 := none) (o8 := none) (o9 := none) hA isA akb (by rw [ako]; show 1000 + (60 * c + nn) ≠ _; omega) hc6 (by have := h47.2; omega) (fun e => by
        rw [ti.1.1] at e
        rw [ti.2.2.2.2.2 e]
        exact hS)
      generalize hd : doA (L.1 (40 * h + r)) (nu q 47 (60 * c + nn)) (q.1 48 (60 * c + nn)) (q.2 51 (60 * c + nn)) (q.2 52 (60 * c + nn)) = d
      rw [vR, hd, vK c hc6, ti.1.1] at hA1
      obtain ⟨H1, F2, F3⟩ := Rep_hd (q' := q) (L' := (va_up L.1 (40 * h + r) d.1, doS d.2.2.2 (q.1 15 (40 * h + r)) L.2.1 (40 * h + r) (q.1 48 (60 * c + nn)), va_up L.2.2.1 (6 * (40 * h + r) + c) (keepL (L.2.2.1 (6 * (40 * h + r) + c)) (nI nn, d.2.1, d.2.2.1)), L.2.2.2)) H G.1 hh6 hr40 ha f2 f3 s1 (by
        rw [hfr]
        refine ⟨ra, ka, sa, _, sn, _, _, _, hA1, ?_⟩
        refine ⟨ti.1, fun e => absurd e h15, fun _ => ⟨v123, (va_up_self _ _ _).symm, fun c' hc' => ?_⟩, ti.2.2.2.1, ti.2.2.2.2.1, fun e => ?_⟩
        · show _ = va_up L.2.2.1 (6 * (40 * h + r) + c) _ (6 * (40 * h + r) + c')
          by_cases ec : c' = c
          · subst ec
            rw [va_up_self, va_up_self]
          · rw [va_up_ne _ _ ec, va_up_ne _ _ (by omega)]
            exact vK c' hc'
        · show _ = doS d.2.2.2 (q.1 15 (40 * h + r)) L.2.1 (40 * h + r) (q.1 48 (60 * c + nn)) (40 * h + r)
          rw [doS_at, ti.2.2.2.2.2 e]) (fun _ _ _ => rfl) (fun _ _ _ _ => rfl) (fun _ _ _ _ => rfl) (fun p hp => va_up_ne _ _ hp) (fun p hp => doS_ne _ _ _ _ _ hp) (fun p c' hp hc' => va_up_ne _ _ (by omega)) rfl
      -- it was done
      obtain ⟨gg, hoo, hgg⟩ := H1.2.1
      have l7 : oList T0 M1 ow1 1 7 (ad 4) dl := hoo.2.2.2.2.2.2.2.2
      have o7 := (oL_c l7).2.1
      have dll : dl.length = nu q 88 0 := H.2.2.2.2.2.2.2.1
      obtain ⟨⟨g0', g1', g2', g3', g4'⟩, ⟨g5', -⟩, ⟨lo', lb'⟩, -⟩ := lt_g H1 hl
      rw [e62] at g1'
      obtain ⟨M2, ow2, p2, l72, s2⟩ := oL_add (T0 := T0) (MI := MI) (v := ll[l]) (by decide) l7 (by omega) (by
        obtain ⟨lf, lv, lask, ltold, ⟨lc, -, -⟩, -⟩ := H1.2.2.2.2.2.2.1.2 l hl
        exact ⟨6, _, lc, by decide⟩) lb' (ow_ne lo' o7 (by simp)) (fun e he => by
        obtain ⟨i, hi, rfl⟩ := List.getElem_of_mem he
        obtain ⟨l2, hl2, d0, -⟩ := H.2.2.2.2.2.2.2.2 i hi
        rw [d0]
        obtain ⟨lf, lv, lask, ltold, ⟨lc, lo2, lb2⟩, -⟩ := H1.2.2.2.2.2.2.1.2 l2 hl2
        exact ⟨⟨6, _, lc, by decide⟩, lb2, ow_ne lo2 o7 (by simp)⟩)
      have s2' : stp (fun t => t.1 ≠ 1) 1 3850 ow1 M1 ow2 M2 := stp_w s2 (fun t ht e => ht e.1) (by omega) (by omega)
      have HH2 : FH T0 M2 ow2 X ad fh fp cl ll (dl ++ [ll[l]]) q := ⟨gg, oHo_4 hoo l72 s2, hgg⟩
      generalize hq2 : gdone (rup (rupL q 89 0 d.2.1) 90 0 d.2.2.1) (nu q 88 0) (nI c) (nI nn) (nI h) (nI r) (q.1 18 (40 * h + r)) = q2
      have q2o : ∀ k i, ¬ (83 ≤ k ∧ k ≤ 88) → k ≠ 90 → q2.1 k i = q.1 k i := fun k i h1 h2 => by
        rw [← hq2, gdone_o _ _ _ _ _ _ _ (Or.inl (by omega)) (by omega), rup_ne _ _ _ _ h2]
        rfl
      obtain ⟨⟨d83, d84, d85⟩, d86, d87, d88⟩ := gdone_v (rup (rupL q 89 0 d.2.1) 90 0 d.2.2.1) (nu q 88 0) (nI c) (nI nn) (nI h) (nI r) (q.1 18 (40 * h + r))
      rw [hq2] at d83 d84 d85 d86 d87 d88
      have n88 : nu q2 88 0 = nu q 88 0 + 1 := by
        show (q2.1 88 0).toNatClampNeg = _
        rw [d88, nI_clamp (by omega)]
      have H2 := Rep_dn (q' := q2) (l := l) H1 G.1 hl s2' HH2 q2o (fun k i k1 k2 hi => by
        rw [← hq2, gdone_o _ _ _ _ _ _ _ (Or.inr (by omega)) (by omega), rup_ne _ _ _ _ (by omega)]
        rfl) n88 (fun k i hk => by
        rw [← hq2]
        show va_up q.2 89 _ k i = _
        rw [va_up_ne _ _ hk]) ⟨d83.trans e62.symm, d84.trans e66.symm, d85.trans e61.symm, d86.trans e63.symm, d87.trans hg.2⟩
      have G2 : gOK q2 := by
        refine ⟨⟨isN_e (q2o 45 0 (by omega) (by omega)) G.1.1, fun c hc => isN_e (q2o 46 c (by omega) (by omega)) (G.1.2.1 c hc), isN_e (q2o 82 0 (by omega) (by omega)) G.1.2.2.1, isN_e (q2o 12 0 (by omega) (by omega)) G.1.2.2.2.1, isN_e (q2o 44 0 (by omega) (by omega)) G.1.2.2.2.2.1, ⟨by rw [n88]; exact d88, by omega⟩⟩, fun p hp x y => ?_, fun z x y => ?_⟩
        · rw [q2o 15 p (by omega) (by omega)] at x
          rw [q2o 32 p (by omega) (by omega)] at y
          rw [nu_e (q2o 29 p (by omega) (by omega)), nu_e (q2o 82 0 (by omega) (by omega))]
          exact G.2.1 p hp x y
        · rw [nu_e (q2o 82 0 (by omega) (by omega))] at x
          rw [q2o 65 z (by omega) (by omega), q2o 75 z (by omega) (by omega)]
          exact G.2.2 z x y
      have hb2 : rHold M2 ow2 (some b) (40 * h + r) q2 (va_up L.1 (40 * h + r) d.1, doS d.2.2.2 (q.1 15 (40 * h + r)) L.2.1 (40 * h + r) (q.1 48 (60 * c + nn)), va_up L.2.2.1 (6 * (40 * h + r) + c) (keepL (L.2.2.1 (6 * (40 * h + r) + c)) (nI nn, d.2.1, d.2.2.1)), L.2.2.2) pk := by
        rw [← hfr]
        exact rHold_f (F3 r hr40) s2' (fun t ht => by omega) (hs_of (fun k i a b => q2o k i (by omega) (by omega)) (fun k i a b => q2o k i (by omega) (by omega)) (fun k i a b => q2o k i (by omega) (by omega)) rfl rfl (fun _ _ => rfl) (fun _ _ => rfl))
      have n82' : nu q2 82 0 = nu q 82 0 := nu_e (q2o 82 0 (by omega) (by omega))
      obtain ⟨M3, ow3, ll3, pk3, p3, H3, s3⟩ := R_ansr (T0 := T0) (MI := MI) (c := c) (nn := nn) (y := (nI nn, d.2.1, d.2.2.1)) (o3 := some (vr (some (aa (60 * c + nn))))) (o4 := o4) (o5 := o5) H2 G2 hl ⟨by rw [q2o 61 l (by omega) (by omega)]; exact e61, hh6, by rw [q2o 63 l (by omega) (by omega)]; exact e63, hr40⟩ (by rw [q2o 62 l (by omega) (by omega)]; exact e62) hc6 (by rw [q2o 66 l (by omega) (by omega)]; exact e66) hroom hb2 (by rw [q2o 15 _ (by omega) (by omega)]; exact h15) (by
        show lkp Prod.fst (nI nn) (va_up L.2.2.1 (6 * (40 * h + r) + c) _ (6 * (40 * h + r) + c)) = _
        rw [va_up_self]
        exact lkp_keep (x := (nI nn, d.2.1, d.2.2.1)) hy ho)
      rw [n82'] at H3
      refine ⟨M3, ow3, ll3, _, pk3, ?_, H3, ?_⟩
      · rw [bq_111_37, Option.bind_some, g1, Option.bind_some, Option.bind_some, hA_c hA, cond_true, p1]
        simp (decide := true) (disch := omega) only [Option.bind_some, xasI, xasL, xasR, xin_t, cond_true, cond_false, nI_clamp, k_0, k_1, k_2, k_3, k_4, k_5, k_6, k_40, k_60, k_500, k_10000, pk_mul, nI_add, nI_e0, nI_ee, nI_leI, nI_ltI, xbool0, xbool1, xbn0, xbn1, xb_0, xb_1, reduceIte, one0, Option.isNone_none, ne_eq, not_true_eq_false, not_false_eq_true, if_true, if_false, ite_not, Bool.true_and, Bool.and_true]
        rw [bq_111_46, gR hoo.1 4 rfl, Option.bind_some, Option.bind_some, (oL_c l7).1, cond_true, p2]
        simp (decide := true) (disch := omega) only [Option.bind_some, xasI, xasL, xasR, xin_t, cond_true, cond_false, nI_clamp, k_0, k_1, k_2, k_3, k_4, k_5, k_6, k_40, k_60, k_500, k_10000, pk_mul, nI_add, nI_e0, nI_ee, nI_leI, nI_ltI, xbool0, xbool1, xbn0, xbn1, xb_0, xb_1, reduceIte, one0, Option.isNone_none, ne_eq, not_true_eq_false, not_false_eq_true, if_true, if_false, ite_not, Bool.true_and, Bool.and_true]
        rw [bq_111_54]
        exact p3
      · exact stp_w (stp_tr (stp_tr (ext_of s1 (fun t ht => by show t.1 ≠ _; omega) (Nat.le_refl _) (Nat.le_refl _)) (ext_of s2' (fun t ht => by omega) (Nat.le_refl _) (Nat.le_refl _))) s3) (fun _ h => h) (by omega) (by omega)
/-! CALL: what is known is told -/
def gvOK (q : xrho) : Prop := ∀ g, g < nu q 44 0 → isN q 39 g 39
theorem knG_lt2 {q : xrho} {h : Nat} {key : Int32} : ∀ n {g}, knG q h key n = some g → g < n
  | 0, g, e => by cases e
  | n + 1, g, e => by
    have e : (if gvn q h n key then some n else knG q h key n) = some g := e
    by_cases c : gvn q h n key
    · rw [if_pos c] at e
      cases e
      omega
    · rw [if_neg c] at e
      have := knG_lt2 n e
      omega
theorem nI_n9 {j : Nat} (h : j < 2 ^ 31) : nI j ≠ Int32.ofInt (-9) := fun e => nlt0 h (by rw [e]; decide)
theorem R_old {T0 MI X n l h r a c nn : Nat} {ad : Nat → Nat} {fh fp : Nat → Option Nat} {cl ll dl : List Nat} {aa : Nat → Nat} {pk : Nat → Option Nat} {q : xrho} {L : xLs} {M : xM} {ow : xOw} {o4 o5 o6 : Option xV} (H : Rep T0 X n ad fh fp cl ll dl aa pk q L M ow) (G : gOK q) (hl : l < ll.length) (hh : lh q l h r) (e62 : q.1 62 l = nI c) (hc : c < nu q 45 0) (e66 : q.1 66 l = nI nn) (hn : nn < nu q 46 c) (hroom : ll.length < 1200) (ha : fh h = some a) (hz : stz q) (hV : gvOK q) (hU : ∀ s t, s < 40 → t < 40 → kno q h s (q.1 48 (60 * c + nn)) → kno q h t (q.1 48 (60 * c + nn)) → s = t) : ∃ M' ow' ll' pk', xZ T0 MI 110 54 [some (vr (some X)), some (vr (some a)), some (vr (some ll[l])), some (vr (some (aa (60 * c + nn)))), o4, o5, o6] [] M = some (none, M') ∧ Rep T0 X n ad fh fp cl ll' dl aa pk' (gknow q (nu q 82 0) h (nI c) (nI nn) (knR q h (q.1 48 (60 * c + nn)) 0 (nu q 12 0) none) (knG q h (q.1 48 (60 * c + nn)) (nu q 44 0))) L M' ow' ∧ stp ext 4 (2 * ll.length + 4900) ow M ow' M' := by
  have n82 : ll.length = nu q 82 0 := H.2.2.2.2.2.2.1.1
  obtain ⟨e61, hh6, e63, hr40⟩ := hh
  obtain ⟨sg, ⟨ak, ako, akb⟩, -⟩ := H.2.2.2.2.2.1 c nn hc hn
  have b12 := G.1.2.2.2.1.2
  obtain ⟨M1, ow1, o, ek, t1, ho⟩ := c_known (T0 := T0) (MI := MI) (key := q.1 48 (60 * c + nn)) (o2 := none) (o3 := none) H G.1 hh6 ha hz hU
  have t1' := t1 (fun _ => True)
  have H1 : Rep T0 X n ad fh fp cl ll dl aa pk q L M1 ow1 := Rep_bk H G.1 (t1 _) (FH_f H.2.1 t1' (fun _ _ => trivial) (fun _ _ => trivial) (qe_rf _ _ _) (qe_rf _ _ _)) (FP_f H.2.2.2.1 t1' (fun _ _ _ => trivial) (fun _ _ => trivial) (qe_rf _ _ _)) (fun _ _ _ => rfl) (fun _ _ => rfl)
  obtain ⟨⟨g0, g1, g2, g3, g4⟩, ⟨g5, -⟩, ⟨lo, lb⟩, -⟩ := lt_g H1 hl
  rw [e62] at g1
  rw [e66] at g5
  obtain ⟨_, _, _, _, gh, _⟩ := hs_acc (T0 := T0) (MI := MI) (r := r) H1 hh6 hr40 ha
  have hac : xcls M a 3 = true := (hs_acc (T0 := T0) (MI := MI) (r := r) H hh6 hr40 ha).choose_spec.2.2.1
  obtain ⟨M2, ow2, p2, h2, l2, s2⟩ := c_post (T0 := T0) (MI := MI) (kd := nI 2) (fr := nI h) (to := nI c) (rg := Int32.ofInt (-9)) (ep := Int32.ofInt (-9)) (o6 := none) H1.2.1 hroom (le_objs H1.2.2.2.2.2.2.1)
  obtain ⟨M3, p3, l3, s3⟩ := le_i l2 5 (nI nn) (by decide)
  have g5M : xgetI M2 ll[l] 6 5 = some (nI nn) := by
    rw [(get_f s2 lb (by rw [lo]; simp)).1]
    exact g5
  have s23 : stp (fun t => ¬ inP 1 5 6 t ∧ t.1 ≠ 2000 + ll.length) 2 (2 * ll.length + 26) ow1 M1 ow2 M3 := stp_tr (stp_w s2 (fun t ht => ht.1) (Nat.le_refl _) (Nat.le_refl _)) (stp_w s3 (fun t ht => ht.2) (Nat.le_refl _) (Nat.le_refl _))
  have HH3 := FH_f h2 s3 (fun t a => by omega) (fun t a => by omega) (qe_rf _ _ _) (qe_rf _ _ _)
  obtain ⟨z1, z2⟩ := G.2.2 ll.length (by omega) hroom
  have st : xZ T0 MI 110 54 [some (vr (some X)), some (vr (some a)), some (vr (some ll[l])), some (vr (some (aa (60 * c + nn)))), o4, o5, o6] [] M = bif o.isNone then xZ T0 MI 110 124 [some (vr (some X)), some (vr (some a)), some (vr (some ll[l])), some (vr (some (aa (60 * c + nn)))), xinv o4, some (vr o), some (vr (some M1.1))] [] M3 else xZ T0 MI 110 97 [some (vr (some X)), some (vr (some a)), some (vr (some ll[l])), some (vr (some (aa (60 * c + nn)))), xinv o4, some (vr o), some (vr (some M1.1))] [] M3 := by
    rw [bq_110_54, Option.bind_some, gI ak 2 rfl, Option.bind_some, Option.bind_some, hac, cond_true, ek]
    simp (decide := true) (disch := omega) only [Option.bind_some, xasI, xasL, xasR, xin_t, cond_true, cond_false, nI_clamp, k_0, k_1, k_2, k_3, k_4, k_5, k_6, k_40, k_60, k_500, k_10000, pk_mul, nI_add, nI_e0, nI_ee, nI_leI, nI_ltI, xbool0, xbool1, xbn0, xbn1, xb_0, xb_1, reduceIte, one0, Option.isNone_none, ne_eq, not_true_eq_false, not_false_eq_true, if_true, if_false, ite_not, Bool.true_and, Bool.and_true]
    rw [bq_110_62, Option.bind_some, gh, Option.bind_some, Option.bind_some, g1, Option.bind_some, (ho_c H1.2.1).1, cond_true]
    rw [show xZ T0 MI 101 0 [some (vr (some X)), some (vi (Int32.ofInt 2)), some (vi (nI h)), some (vi (nI c)), some (vi (Int32.ofInt (-9))), some (vi (Int32.ofInt (-9))), none] [] M1 = some (some (vr (some M1.1)), M2) from p2]
    simp (decide := true) (disch := omega) only [Option.bind_some, xasI, xasL, xasR, xin_t, cond_true, cond_false, nI_clamp, k_0, k_1, k_2, k_3, k_4, k_5, k_6, k_40, k_60, k_500, k_10000, pk_mul, nI_add, nI_e0, nI_ee, nI_leI, nI_ltI, xbool0, xbool1, xbn0, xbn1, xb_0, xb_1, reduceIte, one0, Option.isNone_none, ne_eq, not_true_eq_false, not_false_eq_true, if_true, if_false, ite_not, Bool.true_and, Bool.and_true]
    rw [bq_110_81, Option.bind_some, g5M, Option.bind_some, Option.bind_some, p3, Option.bind_some]
  have fin : ∀ {sp : Nat} {rg lo' hi ep hm : Int32} {q' : xrho}, isSpot M1 ow1 sp rg lo' hi ep hm → o = some sp → nlq q ll.length q' → rg ≠ Int32.ofInt (-9) → (q'.1 60 ll.length = nI 2 ∧ q'.1 61 ll.length = nI c ∧ q'.1 62 ll.length = nI h ∧ q'.1 63 ll.length = rg ∧ q'.1 64 ll.length = ep) → (q'.1 66 ll.length = nI nn ∧ q'.1 67 ll.length = Int32.ofInt (-9) ∧ q'.1 68 ll.length = Int32.ofInt (-9) ∧ q'.1 69 ll.length = Int32.ofInt (-9) ∧ q'.1 70 ll.length = lo' ∧ q'.1 71 ll.length = hi ∧ q'.1 72 ll.length = hm) → ∃ M' ow' ll' pk', xZ T0 MI 110 54 [some (vr (some X)), some (vr (some a)), some (vr (some ll[l])), some (vr (some (aa (60 * c + nn)))), o4, o5, o6] [] M = some (none, M') ∧ Rep T0 X n ad fh fp cl ll' dl aa pk' q' L M' ow' ∧ stp ext 4 (2 * ll.length + 4900) ow M ow' M' := fun {sp rg lo' hi ep hm q'} hsp heo en hrg e1 e2 => by
    have sp3 := isSpot_f hsp s23 (fun t ht => ⟨fun e => by have := e.1; omega, by omega⟩)
    obtain ⟨M4, p4, l4, s4⟩ := le_i l3 3 rg (by decide)
    have sp4 := isSpot_f sp3 s4 (fun t ht => by omega)
    obtain ⟨M5, p5, l5, s5⟩ := le_i l4 4 ep (by decide)
    obtain ⟨M6, p6, l6, s6⟩ := le_12 l5 (some sp)
    have s36 : stp (fun t => t.1 ≠ 2000 + ll.length) 0 0 ow2 M3 ow2 M6 := stp_tr (stp_tr s4 s5) s6
    have s26 : stp (fun t => ¬ inP 1 5 6 t ∧ t.1 ≠ 2000 + ll.length) 2 (2 * ll.length + 26) ow1 M1 ow2 M6 := stp_tr s23 (stp_w s36 (fun t ht => ht.2) (Nat.le_refl _) (Nat.le_refl _))
    have sp6 := isSpot_f sp3 s36 (fun t ht => by omega)
    have R6 := Rep_nl (q' := q') (L' := L) (par := none) H1 G hroom s26 (FH_f HH3 s36 (fun t a => by omega) (fun t a => by omega) (qe_rf _ _ _) (qe_rf _ _ _)) ⟨_, _, _, _, l6, by
      unfold leT
      rw [e1.1, e1.2.1, e1.2.2.1, e1.2.2.2.1, e1.2.2.2.2, e2.1, e2.2.1, e2.2.2.1, e2.2.2.2.1, e2.2.2.2.2.1, e2.2.2.2.2.2.1, e2.2.2.2.2.2.2, (en.2.2.2.2.2 _).1, (en.2.2.2.2.2 _).2, z1, z2]
      exact ⟨⟨rfl, rfl, rfl, rfl, rfl, rfl, rfl, rfl, rfl, rfl⟩, fun h => absurd h (by decide), fun h => absurd h (by decide), fun h => absurd h (by decide), fun _ => Or.inr ⟨hrg, sp, rfl, sp6⟩, Or.inl ⟨rfl, rfl⟩⟩⟩ en rfl rfl rfl (fun _ _ => rfl)
    refine ⟨M6, ow2, ll ++ [M1.1], _, ?_, R6, stp_w (stp_tr (t1 ext) (ext_of s26 (fun t ht => by rcases ht with h | h <;> exact ⟨fun e => by have := e.1; omega, by omega⟩) (Nat.le_refl _) (Nat.le_refl _))) (fun _ h => h) (by omega) (by omega)⟩
    rw [st, heo, Option.isNone_some, cond_false, bq_110_97, Option.bind_some, (sp_g sp3).2.1, Option.bind_some, Option.bind_some, p4, Option.bind_some, Option.bind_some, (sp_g sp4).2.2.2.2.1, Option.bind_some, Option.bind_some, p5, Option.bind_some, Option.bind_some, p6, Option.bind_some, bq_110_124]
  rw [← n82]
  cases hR : knR q h (q.1 48 (60 * c + nn)) 0 (nu q 12 0) none with
  | some s =>
    rw [hR] at ho
    obtain ⟨sp, e1, hs, e2⟩ := ho
    have en : nlq q ll.length (gknow q ll.length h (nI c) (nI nn) (some s) (knG q h (q.1 48 (60 * c + nn)) (nu q 44 0))) := nlq_up (nlq_up (nlq_up (nlq_up (nlq_new _ _ _ _ _ _ _) (by decide)) (by decide)) (by decide)) (by decide)
    refine fin (q' := gknow q ll.length h (nI c) (nI nn) (some s) (knG q h (q.1 48 (60 * c + nn)) (nu q 44 0))) e2 e1 en (nI_n9 (by omega)) ?_ ?_
    · unfold gknow gnew
      simp (decide := true) only [rup_r, and_true, and_false, false_and, true_and, reduceIte, and_self]
    · unfold gknow gnew
      simp (decide := true) only [rup_r, and_true, and_false, false_and, true_and, reduceIte, and_self]
  | none =>
    rw [hR] at ho
    cases hG : knG q h (q.1 48 (60 * c + nn)) (nu q 44 0) with
    | some g =>
      rw [hG] at ho
      obtain ⟨sp, e1, e2⟩ := ho
      have gl := hV g (knG_lt2 _ hG)
      have en : nlq q ll.length (gknow q ll.length h (nI c) (nI nn) none (some g)) := nlq_up (nlq_up (nlq_up (nlq_up (nlq_new _ _ _ _ _ _ _) (by decide)) (by decide)) (by decide)) (by decide)
      refine fin (q' := gknow q ll.length h (nI c) (nI nn) none (some g)) e2 e1 en (by rw [gl.1]; exact nI_n9 (by have := gl.2; omega)) ?_ ?_
      · unfold gknow gnew
        simp (decide := true) only [rup_r, and_true, and_false, false_and, true_and, reduceIte, and_self]
      · unfold gknow gnew
        simp (decide := true) only [rup_r, and_true, and_false, false_and, true_and, reduceIte, and_self]
    | none =>
      rw [hG] at ho
      have ho : o = none := ho
      have en : nlq q ll.length (gknow q ll.length h (nI c) (nI nn) none none) := nlq_up (nlq_new _ _ _ _ _ _ _) (by decide)
      have ev : ((gknow q ll.length h (nI c) (nI nn) none none).1 60 ll.length = nI 2 ∧ (gknow q ll.length h (nI c) (nI nn) none none).1 61 ll.length = nI c ∧ (gknow q ll.length h (nI c) (nI nn) none none).1 62 ll.length = nI h ∧ (gknow q ll.length h (nI c) (nI nn) none none).1 63 ll.length = Int32.ofInt (-9) ∧ (gknow q ll.length h (nI c) (nI nn) none none).1 64 ll.length = Int32.ofInt (-9)) ∧ (gknow q ll.length h (nI c) (nI nn) none none).1 66 ll.length = nI nn ∧ (gknow q ll.length h (nI c) (nI nn) none none).1 67 ll.length = Int32.ofInt (-9) ∧ (gknow q ll.length h (nI c) (nI nn) none none).1 68 ll.length = Int32.ofInt (-9) ∧ (gknow q ll.length h (nI c) (nI nn) none none).1 69 ll.length = Int32.ofInt (-9) := by
        unfold gknow gnew
        simp (decide := true) only [rup_r, and_true, and_false, false_and, true_and, reduceIte, and_self]
      have R6 := Rep_nl (q' := gknow q ll.length h (nI c) (nI nn) none none) (L' := L) (par := none) H1 G hroom s23 HH3 ⟨_, _, _, _, l3, by
        unfold leT
        rw [ev.1.1, ev.1.2.1, ev.1.2.2.1, ev.1.2.2.2.1, ev.1.2.2.2.2, ev.2.1, ev.2.2.1, ev.2.2.2.1, ev.2.2.2.2, (en.2.2.2.2.2 _).1, (en.2.2.2.2.2 _).2, z1, z2]
        exact ⟨⟨rfl, rfl, rfl, rfl, rfl, rfl, rfl, rfl, rfl, rfl⟩, fun h => absurd h (by decide), fun h => absurd h (by decide), fun h => absurd h (by decide), fun _ => Or.inl ⟨rfl, rfl⟩, Or.inl ⟨rfl, rfl⟩⟩⟩ en rfl rfl rfl (fun _ _ => rfl)
      refine ⟨M3, ow2, ll ++ [M1.1], _, ?_, R6, stp_w (stp_tr (t1 ext) (ext_of s23 (fun t ht => by rcases ht with h | h <;> exact ⟨fun e => by have := e.1; omega, by omega⟩) (Nat.le_refl _) (Nat.le_refl _))) (fun _ h => h) (by omega) (by omega)⟩
      rw [st, ho, Option.isNone_none, cond_true, bq_110_124]
theorem R_called {T0 MI X n l h r a c nn : Nat} {ad : Nat → Nat} {fh fp : Nat → Option Nat} {cl ll dl : List Nat} {aa : Nat → Nat} {pk : Nat → Option Nat} {q : xrho} {L : xLs} {M : xM} {ow : xOw} {o3 o4 o5 o6 : Option xV} (H : Rep T0 X n ad fh fp cl ll dl aa pk q L M ow) (G : gOK q) (hl : l < ll.length) (h60 : q.1 60 l = nI 0) (hh : lh q l h r) (e62 : q.1 62 l = nI c) (hc : c < nu q 45 0) (e66 : q.1 66 l = nI nn) (hn : nn < nu q 46 c) (h47 : isN q 47 (60 * c + nn) 4) (hS : (addK (L.2.1 (40 * h + r)) (q.1 48 (60 * c + nn))).length < 500) (hroom : ll.length < 1200) (h88 : nu q 88 0 < 1900) (ha : fh h = some a) (hz : stz q) (hV : gvOK q) (hU : ∀ s t, s < 40 → t < 40 → kno q h s (q.1 48 (60 * c + nn)) → kno q h t (q.1 48 (60 * c + nn)) → s = t) : ∃ M' ow' ll' dl' pk', xZ T0 MI 110 0 [some (vr (some X)), some (vr (some a)), some (vr (some ll[l])), o3, o4, o5, o6] [] M = some (none, M') ∧ Rep T0 X n ad fh fp cl ll' dl' aa pk' (acall q L l h r).1 (acall q L l h r).2 M' ow' ∧ stp ext 4 (2 * ll.length + 4900) ow M ow' M' := by
  have hh0 := hh
  obtain ⟨e61, hh6, e63, hr40⟩ := hh
  obtain ⟨⟨g0, g1, g2, g3, g4⟩, -, ⟨lo, lb⟩, -⟩ := lt_g H hl
  rw [e63] at g3
  obtain ⟨f, f2, f3, hac, -, lk⟩ := hs_acc (T0 := T0) (MI := MI) (r := r) H hh6 hr40 ha
  have hc6 : c < 6 := by have := G.1.1.2; omega
  have n62 : nu q 62 l = c := by unfold nu; rw [e62, nI_clamp (by omega)]
  have b46 := (G.1.2.1 c hc6).2
  have n66 : nu q 66 l = nn := by unfold nu; rw [e66, nI_clamp (by omega)]
  have gask : xgetR M ll[l] 6 11 = some (some (aa (60 * c + nn))) := by
    obtain ⟨lf, lv, lask, ltold, ⟨lc, -, -⟩, lt⟩ := H.2.2.2.2.2.2.1.2 l hl
    have := lt.2.2.2.1 h60
    rw [n62, n66] at this
    rw [← this]
    exact gR lc 11 rfl
  rw [bq_110_0, Option.bind_some, gask, Option.bind_some, Option.isNone_some, cond_false, bq_110_10, Option.bind_some, g3, Option.bind_some, Option.bind_some, hac, cond_true, lk]
  simp (decide := true) (disch := omega) only [Option.bind_some, xasI, xasL, xasR, xin_t, cond_true, cond_false, nI_clamp, k_0, k_1, k_2, k_3, k_4, k_5, k_6, k_40, k_60, k_500, k_10000, pk_mul, nI_add, nI_e0, nI_ee, nI_leI, nI_ltI, xbool0, xbool1, xbn0, xbn1, xb_0, xb_1, reduceIte, one0, Option.isNone_none, ne_eq, not_true_eq_false, not_false_eq_true, if_true, if_false, ite_not, Bool.true_and, Bool.and_true]
  have old : ¬ gserv q (40 * h + r) (q.1 64 l) → ∀ o4', ∃ M' ow' ll' dl' pk', xZ T0 MI 110 54 [some (vr (some X)), some (vr (some a)), some (vr (some ll[l])), some (vr (some (aa (60 * c + nn)))), o4', o5, o6] [] M = some (none, M') ∧ Rep T0 X n ad fh fp cl ll' dl' aa pk' (acall q L l h r).1 (acall q L l h r).2 M' ow' ∧ stp ext 4 (2 * ll.length + 4900) ow M ow' M' := fun hg o4' => by
    obtain ⟨M', ow', ll', pk', e1, H1, s1⟩ := R_old (T0 := T0) (MI := MI) (o4 := o4') (o5 := o5) (o6 := o6) H G hl hh0 e62 hc e66 hn hroom ha hz hV hU
    refine ⟨M', ow', ll', dl, pk', e1, ?_, s1⟩
    unfold acall
    dsimp only
    rw [if_neg hg, n62, n66]
    exact H1
  have hN := f3 r hr40
  cases hfr : f r with
  | none =>
    rw [hfr] at hN
    rw [bq_110_18, Option.isNone_none, cond_true]
    exact old (fun e => by rcases e.1 with e2 | e2 <;> exact absurd (e2.symm.trans hN.1) (by decide)) _
  | some b =>
    rw [hfr] at hN
    have st := hd_st hN
    obtain ⟨ra, ka, sa, hv, sn, R, K, S, hA, ti⟩ := hN
    rw [bq_110_18, Option.isNone_some, cond_false, bq_110_25, Option.bind_some, st.2, cond_true, c_isServing st.1]
    simp (decide := true) (disch := omega) only [Option.bind_some, xasI, xasL, xasR, xin_t, cond_true, cond_false, nI_clamp, k_0, k_1, k_2, k_3, k_4, k_5, k_6, k_40, k_60, k_500, k_10000, pk_mul, nI_add, nI_e0, nI_ee, nI_leI, nI_ltI, xbool0, xbool1, xbn0, xbn1, xb_0, xb_1, reduceIte, one0, Option.isNone_none, ne_eq, not_true_eq_false, not_false_eq_true, if_true, if_false, ite_not, Bool.true_and, Bool.and_true]
    rw [bq_110_30]
    by_cases c1 : q.1 15 (40 * h + r) = nI 1 ∨ q.1 15 (40 * h + r) = nI 2
    · have v3 := (ti.2.2.1 (by rcases c1 with e | e <;> (rw [e]; decide))).1.2.2
      have e3 := hA_g hA 3 (by decide)
      rw [v3] at e3
      rw [tI_t c1, if_neg one0, bq_110_33, Option.bind_some, e3, Option.bind_some, Option.bind_some, g4, Option.bind_some]
      by_cases c2 : q.1 18 (40 * h + r) = q.1 64 l
      · obtain ⟨M', ow', ll', dl', pk', e1, H1, s1⟩ := R_serve (T0 := T0) (MI := MI) (o4 := none) (o5 := none) H G hl hh0 e62 hc e66 hn h47 hS hroom h88 ha f2 f3 hfr ⟨c1, c2⟩
        refine ⟨M', ow', ll', dl', pk', ?_, H1, s1⟩
        rw [if_pos c2, bq_110_45, (ho_c H.2.1).1, cond_true, e1]
        simp (decide := true) (disch := omega) only [Option.bind_some, xasI, xasL, xasR, xin_t, cond_true, cond_false, nI_clamp, k_0, k_1, k_2, k_3, k_4, k_5, k_6, k_40, k_60, k_500, k_10000, pk_mul, nI_add, nI_e0, nI_ee, nI_leI, nI_ltI, xbool0, xbool1, xbn0, xbn1, xb_0, xb_1, reduceIte, one0, Option.isNone_none, ne_eq, not_true_eq_false, not_false_eq_true, if_true, if_false, ite_not, Bool.true_and, Bool.and_true]
        rw [bq_110_53]
      · rw [if_neg c2]
        exact old (fun e => c2 e.2) _
    · rw [tI_f c1, if_pos rfl]
      exact old (fun e => c1 e.1) _
