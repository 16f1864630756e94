/-! CALL -/
theorem lkp_insR {x : Int32 × Int64 × Int32} : ∀ {l : KW}, (∀ y ∈ l, y.1 ≠ x.1) → lkp Prod.fst x.1 (insR Prod.fst x l) = some x
  | [], _ => by
    show (if x.1 = x.1 then some x else none) = some x
    rw [if_pos rfl]
  | y :: r, h => by
    unfold insR
    by_cases c : x.1 < y.1
    · rw [if_pos c]
      show (if x.1 = x.1 then some x else _) = some x
      rw [if_pos rfl]
    · rw [if_neg c]
      show (if y.1 = x.1 then some y else lkp Prod.fst x.1 (insR Prod.fst x r)) = some x
      rw [if_neg (h y (by simp)), lkp_insR (fun z hz => h z (by simp [hz]))]
theorem lkp_keep {l : KW} {x : Int32 × Int64 × Int32} (hn : lkp Prod.fst x.1 l = none) (ho : ¬ oldK l x.1) : lkp Prod.fst x.1 (keepL l x) = some x := by
  have h' := lkp_none.mp hn
  unfold keepL
  rw [hn]
  dsimp only
  by_cases h4 : l.length = 4
  · rw [if_pos h4]
    cases l with
    | nil => simp at h4
    | cons a t =>
      have c : ¬ x.1 < a.1 := fun c => ho ⟨h4, c⟩
      show lkp Prod.fst x.1 (if x.1 < a.1 then a :: t else insR Prod.fst x t) = some x
      rw [if_neg c]
      exact lkp_insR (fun z hz => h' z (by simp [hz]))
  · rw [if_neg h4]
    exact lkp_insR h'
theorem nlq_upL {q q' : xrho} {l j : Nat} {x : Int64} (H : nlq q l q') : nlq q l (rupL q' 77 (3 * l + j) x) := by
  obtain ⟨h1, h2, h3, h4, h5, h6⟩ := H
  refine ⟨h1, h2, fun i hi => ⟨(h3 i hi).1, (h3 i hi).2.1, ?_⟩, fun f i hf => ?_, h5, h6⟩
  · show va_up q'.2 77 (vp_updL (q'.2 77) (3 * l + j) x) 77 i = _
    rw [va_up_self]
    unfold vp_updL
    rw [if_neg (by omega)]
    exact (h3 i hi).2.2
  · show va_up q'.2 77 _ f i = _
    rw [va_up_ne _ _ hf]
    exact h4 f i hf
/-- one more that was done -/
theorem Rep_dn {T0 X n x y l : Nat} {ad : Nat → Nat} {fh fp : Nat → Option Nat} {cl ll dl : List Nat} {aa : Nat → Nat} {pk : Nat → Option Nat} {q q' : xrho} {L : xLs} {M M' : xM} {ow ow' : xOw} (H : Rep T0 X n ad fh fp cl ll dl aa pk q L M ow) (B : bds q) (hl : l < ll.length) (hs : stp (fun t => t.1 ≠ 1) x y ow M ow' M') (hH : FH T0 M' ow' X ad fh fp cl ll (dl ++ [ll[l]]) q) (e : ∀ k i, ¬ (83 ≤ k ∧ k ≤ 88) → k ≠ 90 → q'.1 k i = q.1 k i) (e2 : ∀ k i, 83 ≤ k → k ≤ 87 → i < nu q 88 0 → q'.1 k i = q.1 k i) (e88 : nu q' 88 0 = nu q 88 0 + 1) (eL : ∀ k i, k ≠ 89 → q'.2 k i = q.2 k i) (hv : q'.1 83 (nu q 88 0) = q.1 62 l ∧ q'.1 84 (nu q 88 0) = q.1 66 l ∧ q'.1 85 (nu q 88 0) = q.1 61 l ∧ q'.1 86 (nu q 88 0) = q.1 63 l ∧ q'.1 87 (nu q 88 0) = q.1 64 l) : Rep T0 X n ad fh fp cl ll (dl ++ [ll[l]]) aa pk q' L M' ow' := by
  obtain ⟨H0, H1, H2, H3, H4, H5, H6, H7⟩ := H
  have hll : ll.length ≤ 1200 := by rw [H6.1]; exact B.2.2.1.2
  have hcl : cl.length ≤ 6 := by rw [H4.1]; exact B.1.2
  obtain ⟨g, ho, hg⟩ := hH
  refine ⟨hs.2.1.2 H0, ⟨g, ?_, fun i hi => by rw [hg i hi, e 1 i (by decide) (by decide)]⟩, FT_f H2 hs ⟨fun t a b => ?_, fun t a b => ?_, fun t a => ?_, fun t a => ?_⟩ (fun k i a b => e k i (by omega) (by omega)) (fun k i a b => e k i (by omega) (by omega)) (fun p hp => hs_of (fun k i a b => e k i (by omega) (by omega)) (fun k i a b => e k i (by omega) (by omega)) (fun k i a b => e k i (by omega) (by omega)) rfl rfl (fun _ _ => rfl) (fun _ _ => rfl)), FP_f H3 hs (fun t a b => ?_) (fun t a => ?_) (fun k i a b => e k i (by omega) (by omega)), FC_f H4 hcl hs (fun t a b => ?_) (fun t a => ?_) (fun t a => ?_) (fun k i a b => e k i (by omega) (by omega)) (fun k i a b => e k i (by omega) (by omega)) (Nat.le_refl _), FA_f H5 B.1.2 (fun c hc => (B.2.1 c hc).2) hs (fun t a b => ?_) (fun k i a b => e k i (by omega) (by omega)) (fun k i a b => eL k i (by omega)), FL_f H6 hll hs (fun t a b => ?_) (fun t a => ?_) (e 82 0 (by decide) (by decide)) (fun l hl => ls_of (fun k i a b => e k i (by omega) (by omega)) (fun k i a b => eL k i (by omega)) (fun _ _ => rfl)), ⟨?_, fun i hi => ?_⟩⟩
  any_goals omega
  · rw [e 12 0 (by decide) (by decide), e 13 0 (by decide) (by decide), e 14 0 (by decide) (by decide)]
    exact ho
  · rw [List.length_append, H7.1, e88]
    rfl
  · rw [List.length_append, List.length_singleton] at hi
    by_cases ei : i < dl.length
    · obtain ⟨l', hl', h0, h1, h2, h3, h4, h5⟩ := H7.2 i ei
      have i88 : i < nu q 88 0 := by rw [← H7.1]; exact ei
      refine ⟨l', hl', by rw [List.getElem_append_left ei]; exact h0, ?_, ?_, ?_, ?_, ?_⟩
      · rw [e2 83 i (by decide) (by decide) i88, e 62 l' (by decide) (by decide)]; exact h1
      · rw [e2 84 i (by decide) (by decide) i88, e 66 l' (by decide) (by decide)]; exact h2
      · rw [e2 85 i (by decide) (by decide) i88, e 61 l' (by decide) (by decide)]; exact h3
      · rw [e2 86 i (by decide) (by decide) i88, e 63 l' (by decide) (by decide)]; exact h4
      · rw [e2 87 i (by decide) (by decide) i88, e 64 l' (by decide) (by decide)]; exact h5
    · have ei2 : i = dl.length := by omega
      subst ei2
      obtain ⟨w1, w2, w3, w4, w5⟩ := hv
      rw [← H7.1] at w1 w2 w3 w4 w5
      refine ⟨l, hl, ?_, ?_, ?_, ?_, ?_, ?_⟩
      · rw [List.getElem_append_right (Nat.le_refl _)]
        simp only [Nat.sub_self, List.getElem_singleton]
      · rw [e 62 l (by decide) (by decide)]; exact w1
      · rw [e 66 l (by decide) (by decide)]; exact w2
      · rw [e 61 l (by decide) (by decide)]; exact w3
      · rw [e 63 l (by decide) (by decide)]; exact w4
      · rw [e 64 l (by decide) (by decide)]; exact w5
/-- the ANSWER goes: from 55 on -/
theorem R_ansr {T0 MI X n l h r b c nn : Nat} {ad : Nat → Nat} {fh fp : Nat → Option Nat} {cl ll dl : List Nat} {aa : Nat → Nat} {pk : Nat → Option Nat} {q : xrho} {L : xLs} {M : xM} {ow : xOw} {o3 o4 o5 : Option xV} {y : Int32 × Int64 × Int32} (H : Rep T0 X n ad fh fp cl ll dl aa pk q L M ow) (G : gOK q) (hl : l < ll.length) (hh : lh q l h r) (e62 : q.1 62 l = nI c) (hc : c < 6) (e66 : q.1 66 l = nI nn) (hroom : ll.length < 1200) (hb : rHold M ow (some b) (40 * h + r) q L pk) (h15 : q.1 15 (40 * h + r) ≠ 0) (hy : lkp Prod.fst (nI nn) (L.2.2.1 (6 * (40 * h + r) + c)) = some y) : ∃ M' ow' ll' pk', xZ T0 MI 111 55 [some (vr (some X)), some (vr (some b)), some (vr (some ll[l])), o3, o4, o5] [] M = some (none, M') ∧ Rep T0 X n ad fh fp cl ll' dl aa pk' (gansw q (nu q 82 0) (nI h) (nI c) (nI nn) y.2.1 y.2.2) L M' ow' ∧ stp ext 2 (2 * ll.length + 26) ow M ow' M' := by
  have n82 : ll.length = nu q 82 0 := H.2.2.2.2.2.2.1.1
  obtain ⟨e61, hh6, e63, hr40⟩ := hh
  obtain ⟨⟨g0, g1, g2, g3, g4⟩, ⟨g5, -⟩, ⟨lo, lb⟩, -⟩ := lt_g H hl
  rw [e61] at g2
  rw [e62] at g1
  rw [e66] at g5
  obtain ⟨ra, ka, sa, hv, sn, R, K, S, hA, ti⟩ := hb
  obtain ⟨-, vR, vK⟩ := ti.2.2.1 h15
  obtain ⟨x, ex, hx⟩ := oK_find (T0 := T0) (MI := MI) (count := nI nn) (o3 := none) (o4 := none) hA.2.2.2.2.1 hc
  rw [vK c hc, hy] at hx
  obtain ⟨j, va, wa, fv, fw, rfl, hj, x1, x2, x3, x4, x5, x6⟩ := hx
  have ok := hA.2.2.2.2.1
  have oka : ow ka = (100 + (40 * h + r), 4) ∧ ka < M.1 := by
    obtain ⟨s, cc, v, ww, q', h1, h2, h3, h4, h5, h6, o, b⟩ := ok
    exact ⟨o.1, b.1⟩
  have okv : ow va = (100 + (40 * h + r), 7) ∧ va < M.1 ∧ ow wa = (100 + (40 * h + r), 8) ∧ wa < M.1 := by
    obtain ⟨s, cc, v, ww, q', h1, h2, h3, h4, h5, h6, o, b⟩ := ok
    have y1 := gR h1 2 (show _ = some (vr (some v)) from rfl)
    have y2 := gR h1 3 (show _ = some (vr (some ww)) from rfl)
    rw [x1] at y1
    rw [x2] at y2
    cases y1
    cases y2
    exact ⟨o.2.2.2.1, b.2.2.2.1, o.2.2.2.2, b.2.2.2.2⟩
  obtain ⟨M1, ow1, p1, h1, l1, s1⟩ := c_post (T0 := T0) (MI := MI) (kd := nI 1) (fr := nI h) (to := nI c) (rg := Int32.ofInt (-9)) (ep := Int32.ofInt (-9)) (o6 := none) H.2.1 hroom (le_objs H.2.2.2.2.2.2.1)
  obtain ⟨M2, p2, l2, s2⟩ := le_i l1 5 (nI nn) (by decide)
  obtain ⟨M3, p3, l3, s3⟩ := le_9 l2 y.2.1
  obtain ⟨M4, p4, l4, s4⟩ := le_i l3 10 y.2.2 (by decide)
  have s12 : stp (fun t => ¬ inP 1 5 6 t ∧ t.1 ≠ 2000 + ll.length) 2 (2 * ll.length + 26) ow M ow1 M2 := stp_tr (stp_w s1 (fun t ht => ht.1) (Nat.le_refl _) (Nat.le_refl _)) (stp_w s2 (fun t ht => ht.2) (Nat.le_refl _) (Nat.le_refl _))
  have s13 : stp (fun t => ¬ inP 1 5 6 t ∧ t.1 ≠ 2000 + ll.length) 2 (2 * ll.length + 26) ow M ow1 M3 := stp_tr s12 (stp_w s3 (fun t ht => ht.2) (Nat.le_refl _) (Nat.le_refl _))
  have s14 : stp (fun t => ¬ inP 1 5 6 t ∧ t.1 ≠ 2000 + ll.length) 2 (2 * ll.length + 26) ow M ow1 M4 := stp_tr s13 (stp_w s4 (fun t ht => ht.2) (Nat.le_refl _) (Nat.le_refl _))
  have inb : ∀ k, ¬ inP 1 5 6 (100 + (40 * h + r), k) ∧ (100 + (40 * h + r), k).1 ≠ 2000 + ll.length := fun k => ⟨fun e => by have := e.1; simp only at this; omega, by simp only; omega⟩
  have b2 := (get_f (c := 2) (k := 5) s12 hA.2.2.1 (by rw [hA.2.1]; exact inb 0)).2.1
  have b3 := (get_f (c := 2) (k := 5) s13 hA.2.2.1 (by rw [hA.2.1]; exact inb 0)).2.1
  have k2 := (get_f (c := 4) (k := 2) s12 oka.2 (by rw [oka.1]; exact inb 4)).2.1
  have k3 := (get_f (c := 4) (k := 3) s13 oka.2 (by rw [oka.1]; exact inb 4)).2.1
  have v2 := (s12.2.2.2 va okv.2.1).2 (by rw [okv.1]; exact inb 7)
  have w3 := (s13.2.2.2 wa okv.2.2.2).2 (by rw [okv.2.2.1]; exact inb 8)
  obtain ⟨z1, z2⟩ := G.2.2 ll.length (by omega) hroom
  have en : nlq q ll.length (gansw q ll.length (nI h) (nI c) (nI nn) y.2.1 y.2.2) := nlq_up (nlq_upL (j := 0) (nlq_up (nlq_new _ _ _ _ _ _ _) (by decide))) (by decide)
  have ev : ((gansw q ll.length (nI h) (nI c) (nI nn) y.2.1 y.2.2).1 60 ll.length = nI 1 ∧ (gansw q ll.length (nI h) (nI c) (nI nn) y.2.1 y.2.2).1 61 ll.length = nI c ∧ (gansw q ll.length (nI h) (nI c) (nI nn) y.2.1 y.2.2).1 62 ll.length = nI h ∧ (gansw q ll.length (nI h) (nI c) (nI nn) y.2.1 y.2.2).1 63 ll.length = Int32.ofInt (-9) ∧ (gansw q ll.length (nI h) (nI c) (nI nn) y.2.1 y.2.2).1 64 ll.length = Int32.ofInt (-9)) ∧ (gansw q ll.length (nI h) (nI c) (nI nn) y.2.1 y.2.2).1 66 ll.length = nI nn ∧ (gansw q ll.length (nI h) (nI c) (nI nn) y.2.1 y.2.2).1 67 ll.length = Int32.ofInt (-9) ∧ (gansw q ll.length (nI h) (nI c) (nI nn) y.2.1 y.2.2).1 68 ll.length = Int32.ofInt (-9) ∧ (gansw q ll.length (nI h) (nI c) (nI nn) y.2.1 y.2.2).1 69 ll.length = Int32.ofInt (-9) ∧ (gansw q ll.length (nI h) (nI c) (nI nn) y.2.1 y.2.2).1 73 ll.length = y.2.2 := by
    unfold gansw gnew
    simp (decide := true) only [rup_r, rupL_1, and_true, and_false, false_and, true_and, reduceIte, and_self]
  have e77 : (gansw q ll.length (nI h) (nI c) (nI nn) y.2.1 y.2.2).2 77 (3 * ll.length) = y.2.1 := by
    show va_up q.2 77 (vp_updL (q.2 77) (3 * ll.length) y.2.1) 77 (3 * ll.length) = _
    rw [va_up_self]
    unfold vp_updL
    rw [if_pos rfl]
  have R3 := Rep_nl (q' := gansw q ll.length (nI h) (nI c) (nI nn) y.2.1 y.2.2) (L' := L) (par := none) H G hroom s14 (FH_f (FH_f (FH_f h1 s2 (fun t a => by omega) (fun t a => by omega) (qe_rf _ _ _) (qe_rf _ _ _)) s3 (fun t a => by omega) (fun t a => by omega) (qe_rf _ _ _) (qe_rf _ _ _)) s4 (fun t a => by omega) (fun t a => by omega) (qe_rf _ _ _) (qe_rf _ _ _)) ⟨_, _, _, _, l4, by
    unfold leT
    rw [ev.1.1, ev.1.2.1, ev.1.2.2.1, ev.1.2.2.2.1, ev.1.2.2.2.2, ev.2.1, ev.2.2.1, ev.2.2.2.1, ev.2.2.2.2.1, ev.2.2.2.2.2, e77, (en.2.2.2.2.2 _).1, (en.2.2.2.2.2 _).2, z1, z2]
    exact ⟨⟨rfl, rfl, rfl, rfl, rfl, rfl, rfl, rfl, rfl, rfl⟩, fun h => absurd h (by decide), fun _ => ⟨rfl, rfl⟩, fun h => absurd h (by decide), fun h => absurd h (by decide), Or.inl ⟨rfl, rfl⟩⟩⟩ en rfl rfl rfl (fun _ _ => rfl)
  refine ⟨M4, ow1, ll ++ [M.1], _, ?_, by rw [← n82]; exact R3, ext_of s14 (fun t ht => by rcases ht with h | h <;> exact ⟨fun e => by have := e.1; omega, by omega⟩) (Nat.le_refl _) (Nat.le_refl _)⟩
  have g5M : xgetI M1 ll[l] 6 5 = some (nI nn) := by
    rw [(get_f s1 lb (by rw [lo]; simp)).1]
    exact g5
  rw [bq_111_55, Option.bind_some, hA_5 hA, Option.bind_some, Option.bind_some, g1, Option.bind_some, Option.bind_some, g5, Option.bind_some, Option.bind_some, oK_cls ok, cond_true, ex]
  simp (decide := true) (disch := omega) only [Option.bind_some, xasI, xasL, xasR, xin_t, cond_true, cond_false, nI_clamp, k_0, k_1, k_2, k_3, k_4, k_5, k_6, k_40, k_60, k_500, k_10000, pk_mul, nI_add, nI_e0, nI_ee, nI_leI, nI_ltI, xbool0, xbool1, xbn0, xbn1, xb_0, xb_1, reduceIte, one0, Option.isNone_none, ne_eq, not_true_eq_false, not_false_eq_true, if_true, if_false, ite_not, Bool.true_and, Bool.and_true]
  rw [bq_111_70, if_pos (le_0 (by omega)), bq_111_78, Option.bind_some, g2, Option.bind_some, Option.bind_some, g1, Option.bind_some, (ho_c H.2.1).1, cond_true]
  rw [show xZ T0 MI 101 0 [some (vr (some X)), some (vi (Int32.ofInt 1)), some (vi (nI h)), some (vi (nI c)), some (vi (Int32.ofInt (-9))), some (vi (Int32.ofInt (-9))), none] [] M = some (some (vr (some M.1)), M1) from p1]
  simp (decide := true) (disch := omega) only [Option.bind_some, xasI, xasL, xasR, xin_t, cond_true, cond_false, nI_clamp, k_0, k_1, k_2, k_3, k_4, k_5, k_6, k_40, k_60, k_500, k_10000, pk_mul, nI_add, nI_e0, nI_ee, nI_leI, nI_ltI, xbool0, xbool1, xbn0, xbn1, xb_0, xb_1, reduceIte, one0, Option.isNone_none, ne_eq, not_true_eq_false, not_false_eq_true, if_true, if_false, ite_not, Bool.true_and, Bool.and_true]
  rw [bq_111_95, Option.bind_some, g5M, Option.bind_some, Option.bind_some, p2, Option.bind_some, Option.bind_some, b2, hA_5 hA, Option.bind_some, Option.bind_some, k2, x1, Option.bind_some, Option.bind_some, aL (v2.trans x3), xin_t hj (by decide), cond_true, Option.bind_some, nI_clamp (by omega), x5, Option.bind_some, p3, Option.bind_some, Option.bind_some, b3, hA_5 hA, Option.bind_some, Option.bind_some, k3, x2, Option.bind_some, Option.bind_some, aI (w3.trans x4), xin_t hj (by decide), cond_true, Option.bind_some, nI_clamp (by omega), x6, Option.bind_some, p4, Option.bind_some]
