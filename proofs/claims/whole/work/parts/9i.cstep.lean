/-! step -/
theorem gvI_nl {q q' : xrho} (V : gvI q) (G : lastOK q) (e : nlq q (nu q 82 0) q') : gvI q' := by
  obtain ⟨e1, e2, -⟩ := e
  intro p hp
  have n29 : nu q' 29 p = nu q 29 p := nu_e (e1 29 p (by omega) (by omega))
  obtain ⟨V1, V2, V3⟩ := V p hp
  rw [n29, e1 15 p (by omega) (by omega), e1 16 p (by omega) (by omega), e1 17 p (by omega) (by omega), e1 32 p (by omega) (by omega), e1 33 p (by omega) (by omega)]
  refine ⟨V1, V2, fun a b => ?_⟩
  have := G p hp a b
  rw [e2 69 _ (by omega) (by omega) (by omega) this, e2 70 _ (by omega) (by omega) (by omega) this, e2 71 _ (by omega) (by omega) (by omega) this]
  exact V3 a b
theorem gvI_1 {q q' : xrho} {p0 : Nat} (V : gvI q) (G : lastOK q) (e : ∀ k p, k = 15 ∨ k = 16 ∨ k = 17 ∨ k = 29 ∨ k = 32 ∨ k = 33 → p ≠ p0 → q'.1 k p = q.1 k p) (e2 : ∀ k i, k = 69 ∨ k = 70 ∨ k = 71 → i < nu q 82 0 → q'.1 k i = q.1 k i) (h0 : (q'.1 15 p0 = nI 2 → q'.1 33 p0 = 0) ∧ (q'.1 15 p0 = nI 3 → q'.1 33 p0 = 0 → q'.1 32 p0 = 0) ∧ ((q'.1 15 p0 = nI 2 ∨ q'.1 15 p0 = nI 3) → q'.1 32 p0 = 0 → q'.1 69 (nu q' 29 p0) ≠ Int32.ofInt (-9) ∧ q'.1 70 (nu q' 29 p0) = q'.1 16 p0 ∧ q'.1 71 (nu q' 29 p0) = q'.1 17 p0)) : gvI q' := by
  intro p hp
  by_cases ep : p = p0
  · subst ep
    exact h0
  · have n29 : nu q' 29 p = nu q 29 p := nu_e (e 29 p (by omega) ep)
    obtain ⟨V1, V2, V3⟩ := V p hp
    rw [n29, e 15 p (by omega) ep, e 16 p (by omega) ep, e 17 p (by omega) ep, e 32 p (by omega) ep, e 33 p (by omega) ep]
    refine ⟨V1, V2, fun a b => ?_⟩
    have := G p hp a b
    rw [e2 69 _ (by omega) this, e2 70 _ (by omega) this, e2 71 _ (by omega) this]
    exact V3 a b
theorem gvI_agv {q : xrho} {L : xLs} {h r : Nat} (V : gvI q) (G : gOK q) (hh : h < 6) (hr : r < 40) (hl : nu q 82 0 + cG q h r ≤ 1200) : gvI (agv q L h r).1 := by
  obtain ⟨V1, V2, V3⟩ := V (40 * h + r) (by omega)
  unfold agv
  by_cases h2 : q.1 15 (40 * h + r) = nI 2
  · have ec : cG q h r = 1 := by unfold cG; rw [if_pos (Or.inl h2)]
    rw [if_pos h2]
    by_cases h32 : q.1 32 (40 * h + r) = 0
    · rw [if_pos h32]
      exact gvI_nl V G.2.1 (nlq_ck (nlq_up (gpart_nl q h r _) (by decide)))
    · rw [if_neg h32]
      by_cases hS : (L.2.1 (40 * h + r)).length = 0
      · rw [if_pos hS]
        dsimp only
        have ga := gpart_at (rup q 15 (40 * h + r) (nI 3)) h r (nu q 82 0)
        have gn := gpart_nl (rup q 15 (40 * h + r) (nI 3)) h r (nu q 82 0)
        have n29 : nu (gends (rup q 15 (40 * h + r) (nI 3)) h r (nu q 82 0)) 29 (40 * h + r) = nu q 82 0 := by
          show ((gends (rup q 15 (40 * h + r) (nI 3)) h r (nu q 82 0)).1 29 (40 * h + r)).toNatClampNeg = _
          rw [gends_29, if_pos rfl, nI_clamp (by omega)]
        have eo : ∀ k i, k ≠ 28 → k ≠ 29 → k ≠ 32 → k ≠ 69 → (gends (rup q 15 (40 * h + r) (nI 3)) h r (nu q 82 0)).1 k i = (gpart (rup q 15 (40 * h + r) (nI 3)) h r (nu q 82 0)).1 k i := fun k i a b c d => by
          unfold gends
          rw [rup_ne _ _ _ _ c, rup_ne _ _ _ _ a, rup_ne _ _ _ _ b, rup_ne _ _ _ _ d]
        refine gvI_1 (p0 := 40 * h + r) V G.2.1 (fun k p hk hp => ?_) (fun k i hk hi => ?_) ⟨fun e => ?_, fun _ _ => ?_, fun _ _ => ?_⟩
        · rcases hk with rfl | rfl | rfl | rfl | rfl | rfl
          · rw [eo 15 p (by decide) (by decide) (by decide) (by decide), gn.1 15 p (by decide) (by decide), rup_r, if_neg (fun e => hp e.2)]
          · rw [eo 16 p (by decide) (by decide) (by decide) (by decide), gn.1 16 p (by decide) (by decide), rup_ne _ _ _ _ (by decide)]
          · rw [eo 17 p (by decide) (by decide) (by decide) (by decide), gn.1 17 p (by decide) (by decide), rup_ne _ _ _ _ (by decide)]
          · rw [gends_29, if_neg hp, rup_ne _ _ _ _ (by decide)]
          · rw [gends_32, if_neg hp, rup_ne _ _ _ _ (by decide)]
          · rw [eo 33 p (by decide) (by decide) (by decide) (by decide), gn.1 33 p (by decide) (by decide), rup_ne _ _ _ _ (by decide)]
        · rcases hk with rfl | rfl | rfl
          · unfold gends
            rw [rup_ne _ _ _ _ (by decide), rup_ne _ _ _ _ (by decide), rup_ne _ _ _ _ (by decide), rup_r, if_neg (by omega), gn.2.1 69 i (by decide) (by decide) (by decide) hi, rup_ne _ _ _ _ (by decide)]
          · rw [eo 70 i (by decide) (by decide) (by decide) (by decide), gn.2.1 70 i (by decide) (by decide) (by decide) hi, rup_ne _ _ _ _ (by decide)]
          · rw [eo 71 i (by decide) (by decide) (by decide) (by decide), gn.2.1 71 i (by decide) (by decide) (by decide) hi, rup_ne _ _ _ _ (by decide)]
        · rw [eo 15 _ (by decide) (by decide) (by decide) (by decide), gn.1 15 _ (by decide) (by decide), rup_at] at e
          exact absurd e (by decide)
        · rw [gends_32, if_pos rfl]
          rfl
        · rw [n29, eo 70 _ (by decide) (by decide) (by decide) (by decide), eo 71 _ (by decide) (by decide) (by decide) (by decide), eo 16 _ (by decide) (by decide) (by decide) (by decide), eo 17 _ (by decide) (by decide) (by decide) (by decide), ga.2.2.2.2.1, ga.2.2.2.2.2, gn.1 16 _ (by decide) (by decide), gn.1 17 _ (by decide) (by decide)]
          refine ⟨?_, rfl, rfl⟩
          unfold gends
          rw [rup_ne _ _ _ _ (by decide), rup_ne _ _ _ _ (by decide), rup_ne _ _ _ _ (by decide), rup_at]
          decide
      · rw [if_neg hS]
        dsimp only
        have al := gvA_len (L.1 (40 * h + r)) (L.2.1 (40 * h + r))
        generalize gvA (L.1 (40 * h + r)) (L.2.1 (40 * h + r)) = acc at al ⊢
        have ga := gpart_at q h r (nu q 82 0)
        have gn := nlq_wr (acc := acc) (gpart_nl q h r (nu q 82 0))
        have gw : ∀ k, k ≠ 74 → k ≠ 76 → (wrP (gpart q h r (nu q 82 0)) (nu q 82 0) acc).1 k = (gpart q h r (nu q 82 0)).1 k := fun k a b => by rw [wrP_1, if_neg b, if_neg a]
        have n29 : nu (ggv q h r (nu q 82 0) acc) 29 (40 * h + r) = nu q 82 0 := by
          show ((ggv q h r (nu q 82 0) acc).1 29 (40 * h + r)).toNatClampNeg = _
          rw [ggv_29, if_pos rfl, nI_clamp (by omega)]
        have eo : ∀ k i, k ≠ 28 → k ≠ 29 → k ≠ 32 → k ≠ 69 → (ggv q h r (nu q 82 0) acc).1 k i = (wrP (gpart q h r (nu q 82 0)) (nu q 82 0) acc).1 k i := fun k i a b c d => by
          unfold ggv
          rw [rup_ne _ _ _ _ c, rup_ne _ _ _ _ a, rup_ne _ _ _ _ b, rup_ne _ _ _ _ d]
        refine gvI_1 (p0 := 40 * h + r) V G.2.1 (fun k p hk hp => ?_) (fun k i hk hi => ?_) ⟨fun e => ?_, fun _ _ => ?_, fun _ _ => ?_⟩
        · rcases hk with rfl | rfl | rfl | rfl | rfl | rfl
          · rw [eo 15 p (by decide) (by decide) (by decide) (by decide), gn.1 15 p (by decide) (by decide)]
          · rw [eo 16 p (by decide) (by decide) (by decide) (by decide), gn.1 16 p (by decide) (by decide)]
          · rw [eo 17 p (by decide) (by decide) (by decide) (by decide), gn.1 17 p (by decide) (by decide)]
          · rw [ggv_29, if_neg hp]
          · rw [ggv_32, if_neg hp]
          · rw [eo 33 p (by decide) (by decide) (by decide) (by decide), gn.1 33 p (by decide) (by decide)]
        · rcases hk with rfl | rfl | rfl
          · unfold ggv
            rw [rup_ne _ _ _ _ (by decide), rup_ne _ _ _ _ (by decide), rup_ne _ _ _ _ (by decide), rup_r, if_neg (by omega), gn.2.1 69 i (by decide) (by decide) (by decide) hi]
          · rw [eo 70 i (by decide) (by decide) (by decide) (by decide), gn.2.1 70 i (by decide) (by decide) (by decide) hi]
          · rw [eo 71 i (by decide) (by decide) (by decide) (by decide), gn.2.1 71 i (by decide) (by decide) (by decide) hi]
        · rw [eo 33 _ (by decide) (by decide) (by decide) (by decide), gn.1 33 _ (by decide) (by decide)]
          exact V1 h2
        · rw [ggv_32, if_pos rfl]
          rfl
        · rw [n29, eo 70 _ (by decide) (by decide) (by decide) (by decide), eo 71 _ (by decide) (by decide) (by decide) (by decide), eo 16 _ (by decide) (by decide) (by decide) (by decide), eo 17 _ (by decide) (by decide) (by decide) (by decide), gw 70 (by decide) (by decide), gw 71 (by decide) (by decide), ga.2.2.2.2.1, ga.2.2.2.2.2, gn.1 16 _ (by decide) (by decide), gn.1 17 _ (by decide) (by decide)]
          refine ⟨?_, rfl, rfl⟩
          unfold ggv
          rw [rup_ne _ _ _ _ (by decide), rup_ne _ _ _ _ (by decide), rup_ne _ _ _ _ (by decide), rup_at]
          exact fun e => nlt0 (j := acc.length) (by omega) (by rw [e]; decide)
  · rw [if_neg h2]
    by_cases h3 : q.1 15 (40 * h + r) = nI 3
    · rw [if_pos h3]
      by_cases h33 : q.1 33 (40 * h + r) = 0
      · rw [if_pos h33]
        exact gvI_nl V G.2.1 (nlq_ck (nlq_up (gpart_nl q h r _) (by decide)))
      · rw [if_neg h33]
        exact gvI_nl V G.2.1 (nlq_new _ _ _ _ _ _ _)
    · rw [if_neg h3]
      exact V
/-! the book's letters -/
theorem c_bitC {T0 MI : Nat} {M : xM} : ∀ a b c d : Bool, xZ T0 MI 198 0 [some (vi (nI ((bif a then 0 else 1) + (bif b then 0 else 2) + (bif c then 0 else 4) + (bif d then 0 else 8))))] [] M = some (some (vi (nI ((bif a then 0 else 1) + (bif b then 0 else 1) + (bif c then 0 else 1) + (bif d then 0 else 1)))), M) := by
  intro a b c d
  rw [bq_198_0]
  congr 4
  revert a b c d
  decide +kernel
theorem cO_b (q : xrho) (r k : Nat) : cO q r k = bif decide (q.1 9 (4 * r + k) < 0) then 0 else 1 := by
  unfold cO
  by_cases h : q.1 9 (4 * r + k) < 0
  · rw [if_pos h, decide_eq_true h]; rfl
  · rw [if_neg h, decide_eq_false h]; rfl
theorem c_bitO {T0 MI : Nat} {M : xM} (q : xrho) (r : Nat) : xZ T0 MI 198 0 [some (vi (nI (obits q r)))] [] M = some (some (vi (nI (c4 q r))), M) := by
  unfold obits c4
  rw [obit_b, obit_b, obit_b, obit_b, cO_b, cO_b, cO_b, cO_b]
  exact c_bitC _ _ _ _
theorem c4_0 {q : xrho} {r : Nat} (h : obits q r = 0) : c4 q r = 0 := by
  have h0 := obits_0.mp h
  unfold c4 cO
  rw [if_pos (h0 0 (by decide)), if_pos (h0 1 (by decide)), if_pos (h0 2 (by decide)), if_pos (h0 3 (by decide))]
theorem c4_le (q : xrho) (r : Nat) : c4 q r ≤ 4 := by
  have h0 := cO_le q r 0
  have h1 := cO_le q r 1
  have h2 := cO_le q r 2
  have h3 := cO_le q r 3
  unfold c4
  omega
theorem cB_4 (q : xrho) (r : Nat) : cB q r = cW q r + c4 q r := by
  unfold cB c4
  omega
/-- what is owed is owed by a range that is there -/
def owI (q : xrho) : Prop := ∀ r, r < 40 → owR q r ∧ (q.1 2 r = 0 → obits q r = 0)
theorem owI_e {q q' : xrho} (H : owI q) (e : ∀ k, k = 2 ∨ k = 7 ∨ k = 8 ∨ k = 9 → q'.1 k = q.1 k) : owI q' := by
  intro r hr
  have ob : obits q' r = obits q r := obits_e (fun k i a b => by rw [e k (by omega)]) r
  obtain ⟨⟨h1, h2⟩, h3⟩ := H r hr
  unfold owR
  rw [ob, e 2 (by omega), e 7 (by omega), e 8 (by omega), e 9 (by omega)]
  exact ⟨⟨h1, h2⟩, h3⟩
theorem c_cntB {T0 MI X n : Nat} {ad : Nat → Nat} {fh fp : Nat → Option Nat} {cl ll dl : List Nat} {aa : Nat → Nat} {pk : Nat → Option Nat} {q : xrho} {L : xLs} {M : xM} {ow : xOw} (H : Rep T0 X n ad fh fp cl ll dl aa pk q L M ow) (h12 : isN q 12 0 40) (W : owI q) : ∀ m r, r + m = nu q 12 0 → ∀ acc o3, acc ≤ 5 * r → xZ T0 MI 106 4 [some (vr (some X)), some (vi (nI acc)), some (vi (nI r)), o3] [] M = some (some (vi (nI (acc + cBs q r m))), M) := by
  have mk := (ho_c H.2.1).2.2.2.2.2.2.2.1
  have pa := (ho_c H.2.1).2.2.1
  have b := h12.2
  intro m
  induction m with
  | zero =>
    intro r hr acc o3 ha
    rw [bq_106_4, mk, Option.bind_some, h12.1, if_pos (by rw [nI_leI (by omega) (by omega)]; omega), bq_106_52]
    rfl
  | succ m ih =>
    intro r hr acc o3 ha
    rw [bq_106_4, mk, Option.bind_some, h12.1, if_neg (by rw [nI_leI (by omega) (by omega)]; omega), bq_106_12, pa, Option.bind_some, Option.bind_some, ho_p H.2.1 (show r < 40 by omega), Option.bind_some]
    have hp := H.2.2.2.1 r (by omega)
    show _ = some (some (vi (nI (acc + (cB q r + cBs q (r + 1) m)))), M)
    cases hf : fp r with
    | none =>
      rw [hf] at hp
      have z2 : q.1 2 r = 0 := hp
      have : cB q r = 0 := by
        rw [cB_4, c4_0 ((W r (by omega)).2 z2)]
        unfold cW
        rw [if_pos (Or.inl z2)]
      rw [Option.isNone_none, cond_true, bq_106_46, nI_s, ih (r + 1) (by omega) acc _ (by omega), this, Nat.zero_add]
    | some a =>
      rw [hf] at hp
      obtain ⟨h2, s, gi, ta, uw, ⟨p1, -, -⟩, sp, u1, u2, -⟩ := hp
      have b4 := c4_le q r
      rw [Option.isNone_some, cond_false, bq_106_23, Option.bind_some, gI p1 5 rfl, Option.bind_some, c_bitO]
      simp (decide := true) (disch := omega) only [Option.bind_some, xasI, xasL, xasR, xin_t, cond_true, cond_false, nI_clamp, k_0, k_1, k_2, k_3, k_4, k_5, k_6, k_40, k_60, k_500, k_10000, pk_mul, nI_add, nI_e0, nI_ee, nI_leI, nI_ltI, xbool0, xbool1, xbn0, xbn1, xb_0, xb_1, reduceIte, one0, Option.isNone_none, ne_eq, not_true_eq_false, not_false_eq_true, if_true, if_false, ite_not, Bool.true_and, Bool.and_true]
      rw [bq_106_31, Option.bind_some, gI p1 4 rfl, Option.bind_some]
      by_cases h7 : q.1 7 r < 0
      · have ec : cB q r = c4 q r := by
          rw [cB_4]
          unfold cW
          rw [if_pos (Or.inr h7), Nat.zero_add]
        rw [u1 h7, if_pos rfl, bq_106_42, bq_106_43, k_0, nI_add, nI_add, bq_106_46, nI_s, ih (r + 1) (by omega) _ _ (by omega), ec]
        exact congrArg (fun z => some (some (vi (nI z)), M)) (by omega)
      · have ec : cB q r = 1 + c4 q r := by
          rw [cB_4]
          unfold cW
          rw [if_neg (fun h => h.elim (bk0 h2) h7)]
        rw [(u2 h7).1, if_neg one0, bq_106_38, bq_106_43, k_1, nI_add, nI_add, bq_106_46, nI_s, ih (r + 1) (by omega) _ _ (by omega), ec]
        exact congrArg (fun z => some (some (vi (nI z)), M)) (by omega)
theorem R_book1 {T0 MI X n r a : Nat} {ad : Nat → Nat} {fh fp : Nat → Option Nat} {cl ll dl : List Nat} {aa : Nat → Nat} {pk : Nat → Option Nat} {q : xrho} {L : xLs} {M : xM} {ow : xOw} (H : Rep T0 X n ad fh fp cl ll dl aa pk q L M ow) (G : gOK q) (V : gvI q) (W : owI q) (hr : r < 40) (ha : fp r = some a) (hl : ll.length + cB q r ≤ 1200) : ∃ M' ow' ll' pk', xZ T0 MI 107 24 [some (vr (some X)), some (vi (nI r)), some (vr (some a))] [] M = xZ T0 MI 107 41 [some (vr (some X)), some (vi (nI r)), some (vr (some a))] [] M' ∧ Rep T0 X n ad fh fp cl ll' dl aa pk' (abk1 q r) L M' ow' ∧ gOK (abk1 q r) ∧ gvI (abk1 q r) ∧ psT ll.length ll'.length ow M ow' M' ∧ ll'.length = ll.length + cB q r := by
  have hp := H.2.2.2.1 r hr
  rw [ha] at hp
  obtain ⟨h2, s, gi, ta, uw, ⟨p1, -, -⟩, sp, u1, u2, -⟩ := hp
  have n82 : ll.length = nu q 82 0 := H.2.2.2.2.2.2.1.1
  rw [cB_4] at hl ⊢
  -- BEGIN
  have st1 : ∃ M1 ow1 ll1 pk1, xZ T0 MI 107 24 [some (vr (some X)), some (vi (nI r)), some (vr (some a))] [] M = xZ T0 MI 107 36 [some (vr (some X)), some (vi (nI r)), some (vr (some a))] [] M1 ∧ Rep T0 X n ad fh fp cl ll1 dl aa pk1 (abkB q r) L M1 ow1 ∧ gOK (abkB q r) ∧ gvI (abkB q r) ∧ psT ll.length ll1.length ow M ow1 M1 ∧ ll1.length = ll.length + cW q r := by
    unfold abkB cW
    by_cases h7 : q.1 7 r < 0
    · rw [if_pos (Or.inr h7), if_pos (Or.inr h7)]
      refine ⟨M, ow, ll, pk, ?_, H, G, V, psT_rf _ _ _, rfl⟩
      rw [bq_107_24, Option.bind_some, gI p1 4 rfl, Option.bind_some, u1 h7, if_pos rfl]
    · have c1 : cW q r = 1 := by
        unfold cW
        rw [if_neg (fun h => h.elim (bk0 h2) h7)]
      rw [if_neg (fun h => h.elim (bk0 h2) h7), if_neg (fun h => h.elim (bk0 h2) h7)]
      obtain ⟨M1, ow1, b, e1, H1, s1⟩ := R_pbegin (T0 := T0) (MI := MI) (o2 := none) H G (by omega) hr ha h7
      rw [n82] at H1
      have en : nlq q (nu q 82 0) (gbeg q (nu q 82 0) r) := nlq_up (nlq_new _ _ _ _ _ _ _) (by decide)
      refine ⟨M1, ow1, ll ++ [b], _, ?_, H1, gOK_nl G.1 (fun p hp x y => Nat.lt_succ_of_lt (G.2.1 p hp x y)) G.2.2 (by omega) en, gvI_nl V G.2.1 en, by rw [List.length_append]; exact s1, by rw [List.length_append]; rfl⟩
      rw [bq_107_24, Option.bind_some, gI p1 4 rfl, Option.bind_some, (u2 h7).1, if_neg one0, bq_107_31, (ho_c H.2.1).1, cond_true, e1]
      simp (decide := true) (disch := omega) only [Option.bind_some, xasI, xasL, xasR, xin_t, cond_true, cond_false, nI_clamp, k_0, k_1, k_2, k_3, k_4, k_5, k_6, k_40, k_60, k_500, k_10000, pk_mul, nI_add, nI_e0, nI_ee, nI_leI, nI_ltI, xbool0, xbool1, xbn0, xbn1, xb_0, xb_1, reduceIte, one0, Option.isNone_none, ne_eq, not_true_eq_false, not_false_eq_true, if_true, if_false, ite_not, Bool.true_and, Bool.and_true]
  obtain ⟨M1, ow1, ll1, pk1, e1, H1, G1, V1, s1, l1⟩ := st1
  have eB : ∀ k, k < 60 → (abkB q r).1 k = q.1 k := fun k hk => abkB_ne (Or.inl hk) (by omega) (by omega)
  have c4e : c4 (abkB q r) r = c4 q r := by
    unfold c4 cO
    rw [eB 9 (by decide)]
  have W1 := owI_e W (q' := abkB q r) (fun k hk => eB k (by omega))
  obtain ⟨M2, ow2, ll2, pk2, e2, H2, G2, s2, l2⟩ := R_powed (T0 := T0) (MI := MI) H1 G1 hr ha (W1 r hr).1 (by omega)
  refine ⟨M2, ow2, ll2, pk2, ?_, H2, G2, ?_, psT_tr s1 s2, by omega⟩
  · rw [e1, bq_107_36, (ho_c H1.2.1).1, cond_true, e2]
    simp (decide := true) (disch := omega) only [Option.bind_some, xasI, xasL, xasR, xin_t, cond_true, cond_false, nI_clamp, k_0, k_1, k_2, k_3, k_4, k_5, k_6, k_40, k_60, k_500, k_10000, pk_mul, nI_add, nI_e0, nI_ee, nI_leI, nI_ltI, xbool0, xbool1, xbn0, xbn1, xb_0, xb_1, reduceIte, one0, Option.isNone_none, ne_eq, not_true_eq_false, not_false_eq_true, if_true, if_false, ite_not, Bool.true_and, Bool.and_true]
  · have step : ∀ (z : xrho) (k : Nat), gOK z → gvI z → gvI (abkO z r k) := fun z k Gz Vz => by
      unfold abkO
      split
      · exact Vz
      · exact gvI_nl Vz Gz.2.1 (nlq_new _ _ _ _ _ _ _)
    have stG : ∀ (z : xrho) (k : Nat), gOK z → nu z 82 0 + cO z r k ≤ 1200 → gOK (abkO z r k) := fun z k Gz hz => by
      unfold abkO
      unfold cO at hz
      split
      · exact Gz
      · rename_i hc
        rw [if_neg hc] at hz
        exact gOK_new Gz (by omega)
    have nn : ∀ (z : xrho) (k : Nat), gOK z → nu z 82 0 + cO z r k ≤ 1200 → nu (abkO z r k) 82 0 = nu z 82 0 + cO z r k := fun z k Gz hz => by
      show ((abkO z r k).1 82 0).toNatClampNeg = _
      rw [abkO_82 Gz.1.2.2.1.1 (by omega), nI_clamp (by omega)]
    have n1 : nu (abkB q r) 82 0 = ll1.length := H1.2.2.2.2.2.2.1.1.symm
    have cc0 : c4 (abkB q r) r = cO (abkB q r) r 0 + cO (abkB q r) r 1 + cO (abkB q r) r 2 + cO (abkB q r) r 3 := rfl
    have cO_o : ∀ (z : xrho) (k j : Nat), cO (abkO z r k) r j = cO z r j := fun z k j => cO_f (abkO_ne (Or.inl (by decide)) (by decide))
    have a0 := nn (abkB q r) 0 G1 (by omega)
    have g0 := stG (abkB q r) 0 G1 (by omega)
    have k1 := cO_o (abkB q r) 0 1
    have a1 := nn (abkO (abkB q r) r 0) 1 g0 (by omega)
    have g1 := stG (abkO (abkB q r) r 0) 1 g0 (by omega)
    have k2 := (cO_o (abkO (abkB q r) r 0) 1 2).trans (cO_o (abkB q r) 0 2)
    have g2 := stG (abkO (abkO (abkB q r) r 0) r 1) 2 g1 (by omega)
    exact step _ 3 g2 (step _ 2 g1 (step _ 1 g0 (step _ 0 G1 V1)))
theorem R_pbook {T0 MI X n : Nat} {ad : Nat → Nat} {fh fp : Nat → Option Nat} {cl dl : List Nat} {aa : Nat → Nat} {L : xLs} {nn : Nat} (hn : nn ≤ 40) : ∀ m r, r + m = nn → ∀ (M : xM) (ow : xOw) (ll : List Nat) (pk : Nat → Option Nat) (q : xrho) (o2 : Option xV), Rep T0 X n ad fh fp cl ll dl aa pk q L M ow → gOK q → gvI q → owI q → q.1 12 0 = nI nn → ll.length + cBs q r m ≤ 1200 → ∃ M' ow' ll' pk', xZ T0 MI 107 2 [some (vr (some X)), some (vi (nI r)), o2] [] M = some (none, M') ∧ Rep T0 X n ad fh fp cl ll' dl aa pk' (abks r m q) L M' ow' ∧ gOK (abks r m q) ∧ gvI (abks r m q) ∧ psT ll.length ll'.length ow M ow' M' ∧ ll'.length = ll.length + cBs q r m := by
  intro m
  induction m with
  | zero =>
    intro r hr M ow ll pk q o2 H G V W h12 hl
    have mk := (ho_c H.2.1).2.2.2.2.2.2.2.1
    refine ⟨M, ow, ll, pk, ?_, H, G, V, psT_rf _ _ _, rfl⟩
    rw [bq_107_2, mk, Option.bind_some, h12, if_pos (by rw [nI_leI (by omega) (by omega)]; omega), bq_107_47]
  | succ m ih =>
    intro r hr M ow ll pk q o2 H G V W h12 hl
    have mk := (ho_c H.2.1).2.2.2.2.2.2.2.1
    have pa := (ho_c H.2.1).2.2.1
    have hl : ll.length + (cB q r + cBs q (r + 1) m) ≤ 1200 := hl
    have hp := H.2.2.2.1 r (by omega)
    have e60 : ∀ k, k < 60 → (abk1 q r).1 k = q.1 k := fun k hk => abk1_ne (Or.inl hk) (by omega) (by omega)
    have W1 := owI_e W (q' := abk1 q r) (fun k hk => e60 k (by omega))
    have cBe : ∀ m s, cBs (abk1 q r) s m = cBs q s m := by
      intro m
      induction m with
      | zero => intro s; rfl
      | succ m ih =>
        intro s
        show cB (abk1 q r) s + cBs (abk1 q r) (s + 1) m = cB q s + cBs q (s + 1) m
        rw [ih (s + 1)]
        unfold cB cW cO
        rw [e60 2 (by decide), e60 7 (by decide), e60 9 (by decide)]
    have st : ∃ M1 ow1 ll1 pk1 o2', xZ T0 MI 107 2 [some (vr (some X)), some (vi (nI r)), o2] [] M = xZ T0 MI 107 2 [some (vr (some X)), some (vi (nI (r + 1))), o2'] [] M1 ∧ Rep T0 X n ad fh fp cl ll1 dl aa pk1 (abk1 q r) L M1 ow1 ∧ gOK (abk1 q r) ∧ gvI (abk1 q r) ∧ psT ll.length ll1.length ow M ow1 M1 ∧ ll1.length = ll.length + cB q r := by
      cases hf : fp r with
      | none =>
        rw [hf] at hp
        have z2 : q.1 2 r = 0 := hp
        have zo := obits_0.mp ((W r (by omega)).2 z2)
        have ea : abk1 q r = q := by
          unfold abk1
          have b0 : abkB q r = q := by unfold abkB; rw [if_pos (Or.inl z2)]
          have a0 : ∀ k, k < 4 → abkO q r k = q := fun k hk => by unfold abkO; rw [if_pos (zo k hk)]
          rw [b0, a0 0 (by decide), a0 1 (by decide), a0 2 (by decide), a0 3 (by decide)]
        have ec : cB q r = 0 := by
          rw [cB_4, c4_0 ((W r (by omega)).2 z2)]
          unfold cW
          rw [if_pos (Or.inl z2)]
        rw [ea, ec]
        refine ⟨M, ow, ll, pk, some (vr none), ?_, H, G, V, psT_rf _ _ _, rfl⟩
        rw [bq_107_2, mk, Option.bind_some, h12, if_neg (by rw [nI_leI (by omega) (by omega)]; omega), bq_107_10, pa, Option.bind_some, Option.bind_some, ho_p H.2.1 (show r < 40 by omega), Option.bind_some, hf, Option.isNone_none, cond_true, bq_107_21, bq_107_41, nI_s]
      | some a =>
        obtain ⟨M1, ow1, ll1, pk1, e1, H1, G1, V1, s1, l1⟩ := R_book1 (T0 := T0) (MI := MI) H G V W (show r < 40 by omega) hf (by omega)
        refine ⟨M1, ow1, ll1, pk1, some (vr (some a)), ?_, H1, G1, V1, s1, l1⟩
        rw [bq_107_2, mk, Option.bind_some, h12, if_neg (by rw [nI_leI (by omega) (by omega)]; omega), bq_107_10, pa, Option.bind_some, Option.bind_some, ho_p H.2.1 (show r < 40 by omega), Option.bind_some, hf, Option.isNone_some, cond_false, e1, bq_107_41, nI_s]
    obtain ⟨M1, ow1, ll1, pk1, o2', e1, H1, G1, V1, s1, l1⟩ := st
    obtain ⟨M2, ow2, ll2, pk2, e2, H2, G2, V2, s2, l2⟩ := ih (r + 1) (by omega) M1 ow1 ll1 pk1 (abk1 q r) o2' H1 G1 V1 W1 (by rw [e60 12 (by decide)]; exact h12) (by rw [cBe]; omega)
    refine ⟨M2, ow2, ll2, pk2, e1.trans e2, H2, G2, V2, psT_tr s1 s2, ?_⟩
    rw [l2, l1, cBe]
    show ll.length + cB q r + cBs q (r + 1) m = ll.length + (cB q r + cBs q (r + 1) m)
    omega
