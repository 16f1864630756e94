/-! what letters do: the view of a letter; reply, settle, hearDone -/
theorem lt_g {T0 X n l : Nat} {ad : Nat → Nat} {fh fp : Nat → Option Nat} {cl ll dl : List Nat} {aa : Nat → Nat} {pk : Nat → Option Nat} {q : xrho} {L : xLs} {M : xM} {ow : xOw} (H : Rep T0 X n ad fh fp cl ll dl aa pk q L M ow) (hl : l < ll.length) : (xgetI M ll[l] 6 0 = some (q.1 60 l) ∧ xgetI M ll[l] 6 1 = some (q.1 62 l) ∧ xgetI M ll[l] 6 2 = some (q.1 61 l) ∧ xgetI M ll[l] 6 3 = some (q.1 63 l) ∧ xgetI M ll[l] 6 4 = some (q.1 64 l)) ∧ (xgetI M ll[l] 6 5 = some (q.1 66 l) ∧ xgetI M ll[l] 6 6 = some (q.1 67 l) ∧ xgetI M ll[l] 6 7 = some (q.1 68 l) ∧ xgetI M ll[l] 6 14 = some (q.1 75 l) ∧ xgetI M ll[l] 6 15 = some (q.1 65 l)) ∧ (ow ll[l] = (2000 + l, 0) ∧ ll[l] < M.1) ∧ xgetR M ll[l] 6 13 = some (pk l) := by
  obtain ⟨f, v, ask, told, ⟨h1, o, b⟩, ⟨c0, c1, c2, c3, c4, c5, c6, c7, c14, c15⟩, -⟩ := H.2.2.2.2.2.2.1.2 l hl
  exact ⟨⟨by rw [← c0]; exact gI h1 0 rfl, by rw [← c1]; exact gI h1 1 rfl, by rw [← c2]; exact gI h1 2 rfl, by rw [← c3]; exact gI h1 3 rfl, by rw [← c4]; exact gI h1 4 rfl⟩, ⟨by rw [← c5]; exact gI h1 5 rfl, by rw [← c6]; exact gI h1 6 rfl, by rw [← c7]; exact gI h1 7 rfl, by rw [← c14]; exact gI h1 14 rfl, by rw [← c15]; exact gI h1 15 rfl⟩, ⟨o, b⟩, gR h1 13 rfl⟩
/-- a letter to a host about a range -/
def lh (q : xrho) (l h r : Nat) : Prop := q.1 61 l = nI h ∧ h < 6 ∧ q.1 63 l = nI r ∧ r < 40
theorem R_reply {T0 MI X n l h r k : Nat} {ad : Nat → Nat} {fh fp : Nat → Option Nat} {cl ll dl : List Nat} {aa : Nat → Nat} {pk : Nat → Option Nat} {q : xrho} {L : xLs} {M : xM} {ow : xOw} (H : Rep T0 X n ad fh fp cl ll dl aa pk q L M ow) (G : gOK q) (hl : l < ll.length) (hh : lh q l h r) (h62 : q.1 62 l = 0) (hk : 4 ≤ k ∧ k ≤ 14) (hr : ll.length < 1200) : ∃ M' ow' ll' pk', xZ T0 MI 121 0 [some (vr (some X)), some (vi (nI k)), some (vr (some ll[l]))] [] M = some (none, M') ∧ Rep T0 X n ad fh fp cl ll' dl aa pk' (gbk q k h r (q.1 64 l)) L M' ow' ∧ stp ext 2 (2 * ll.length + 26) ow M ow' M' := by
  have n82 : ll.length = nu q 82 0 := H.2.2.2.2.2.2.1.1
  obtain ⟨⟨g0, g1, g2, g3, g4⟩, -⟩ := lt_g H hl
  obtain ⟨e61, hh6, e63, hr40⟩ := hh
  rw [e61] at g2
  rw [e63] at g3
  rw [h62] at g1
  have kk : nI k ≠ nI 0 ∧ nI k ≠ nI 1 ∧ nI k ≠ nI 2 ∧ nI k ≠ nI 3 := by
    refine ⟨?_, ?_, ?_, ?_⟩ <;> (rw [ne_eq, nI_ee (by omega) (by omega)]; omega)
  obtain ⟨M', ow', b, e1, H1, s1⟩ := R_post (T0 := T0) (MI := MI) (kd := nI k) (fr := nI h) (to := 0) (rg := nI r) (ep := q.1 64 l) (o6 := none) H G.1 hr G.2.1 G.2.2 kk
  refine ⟨M', ow', ll ++ [b], va_up pk ll.length none, ?_, ?_, ext_of s1 (fun t ht => by omega) (Nat.le_refl _) (Nat.le_refl _)⟩
  · rw [bq_121_0, Option.bind_some, g2, Option.bind_some, Option.bind_some, g1, Option.bind_some, Option.bind_some, g3, Option.bind_some, Option.bind_some, g4, Option.bind_some, (ho_c H.2.1).1, cond_true, e1]
    simp (decide := true) (disch := omega) only [Option.bind_some, xasI, xasL, xasR, xin_t, cond_true, cond_false, nI_clamp, k_0, k_1, k_2, k_3, k_4, k_5, k_6, k_40, k_60, k_500, k_10000, pk_mul, nI_add, nI_e0, nI_ee, nI_leI, nI_ltI, xbool0, xbool1, xbn0, xbn1, xb_0, xb_1, reduceIte, one0, Option.isNone_none, ne_eq, not_true_eq_false, not_false_eq_true, if_true, if_false, ite_not, Bool.true_and, Bool.and_true]
    rw [bq_121_21]
  · unfold gbk
    rw [← n82]
    exact H1
theorem clr_all : ∀ a b c d : Bool, ((nI ((bif a then 0 else 1) + (bif b then 0 else 2) + (bif c then 0 else 4) + (bif d then 0 else 8)) &&& (nI 1 ^^^ Int32.ofInt (-1))) = nI (0 + (bif b then 0 else 2) + (bif c then 0 else 4) + (bif d then 0 else 8))) ∧ ((nI ((bif a then 0 else 1) + (bif b then 0 else 2) + (bif c then 0 else 4) + (bif d then 0 else 8)) &&& (nI 2 ^^^ Int32.ofInt (-1))) = nI ((bif a then 0 else 1) + 0 + (bif c then 0 else 4) + (bif d then 0 else 8))) ∧ ((nI ((bif a then 0 else 1) + (bif b then 0 else 2) + (bif c then 0 else 4) + (bif d then 0 else 8)) &&& (nI 4 ^^^ Int32.ofInt (-1))) = nI ((bif a then 0 else 1) + (bif b then 0 else 2) + 0 + (bif d then 0 else 8))) ∧ ((nI ((bif a then 0 else 1) + (bif b then 0 else 2) + (bif c then 0 else 4) + (bif d then 0 else 8)) &&& (nI 8 ^^^ Int32.ofInt (-1))) = nI ((bif a then 0 else 1) + (bif b then 0 else 2) + (bif c then 0 else 4) + 0)) := by decide
theorem clr_bit {q : xrho} {r k : Nat} (hk : k < 4) : (nI (obits q r) &&& (nI (2 ^ k) ^^^ Int32.ofInt (-1))) = nI (obits (rup q 9 (4 * r + k) (Int32.ofInt (-1))) r) := by
  obtain ⟨h0, h1, h2, h3⟩ := clr_all (decide (q.1 9 (4 * r + 0) < 0)) (decide (q.1 9 (4 * r + 1) < 0)) (decide (q.1 9 (4 * r + 2) < 0)) (decide (q.1 9 (4 * r + 3) < 0))
  have oz : obit (rup q 9 (4 * r + k) (Int32.ofInt (-1))) r k = 0 := by
    rw [obit_0, rup_at]
    decide
  have oo : ∀ j, j ≠ k → obit (rup q 9 (4 * r + k) (Int32.ofInt (-1))) r j = obit q r j := fun j hj => by
    unfold obit
    rw [rup_nx _ _ _ _ (by omega)]
  unfold obits
  rcases (show k = 0 ∨ k = 1 ∨ k = 2 ∨ k = 3 by omega) with rfl | rfl | rfl | rfl
  · rw [oz, oo 1 (by decide), oo 2 (by decide), oo 3 (by decide), obit_b q r 0, obit_b q r 1, obit_b q r 2, obit_b q r 3]
    exact h0
  · rw [oz, oo 0 (by decide), oo 2 (by decide), oo 3 (by decide), obit_b q r 0, obit_b q r 1, obit_b q r 2, obit_b q r 3]
    exact h1
  · rw [oz, oo 0 (by decide), oo 1 (by decide), oo 3 (by decide), obit_b q r 0, obit_b q r 1, obit_b q r 2, obit_b q r 3]
    exact h2
  · rw [oz, oo 0 (by decide), oo 1 (by decide), oo 2 (by decide), obit_b q r 0, obit_b q r 1, obit_b q r 2, obit_b q r 3]
    exact h3
theorem R_settle {T0 MI X n l r k : Nat} {ad : Nat → Nat} {fh fp : Nat → Option Nat} {cl ll dl : List Nat} {aa : Nat → Nat} {pk : Nat → Option Nat} {q : xrho} {L : xLs} {M : xM} {ow : xOw} {o3 : Option xV} (H : Rep T0 X n ad fh fp cl ll dl aa pk q L M ow) (B : bds q) (W : owI q) (K : bkOK q) (hl : l < ll.length) (e63 : q.1 63 l = nI r) (hr : r < 40) (hk : k < 4) (he : ¬ q.1 64 l < 0) : ∃ M' ow', xZ T0 MI 122 0 [some (vr (some X)), some (vr (some ll[l])), some (vi (nI (2 ^ k))), o3] [] M = some (none, M') ∧ Rep T0 X n ad fh fp cl ll dl aa pk (gset1 q r k (q.1 64 l)) L M' ow' ∧ stp ext 0 0 ow M ow' M' := by
  obtain ⟨⟨g0, g1, g2, g3, g4⟩, -⟩ := lt_g H hl
  rw [e63] at g3
  have pe : xZ T0 MI 89 0 [some (vr (some X)), some (vi (nI r))] [] M = some (some (vr (fp r)), M) := by
    rw [c_pageOf H.2.1, ix_i hr (by decide)]
    rfl
  obtain ⟨⟨W1, W2⟩, W3⟩ := W r hr
  rw [bq_122_0, Option.bind_some, g3, Option.bind_some, (ho_c H.2.1).1, cond_true, pe]
  simp (decide := true) (disch := omega) only [Option.bind_some, xasI, xasL, xasR, xin_t, cond_true, cond_false, nI_clamp, k_0, k_1, k_2, k_3, k_4, k_5, k_6, k_40, k_60, k_500, k_10000, pk_mul, nI_add, nI_e0, nI_ee, nI_leI, nI_ltI, xbool0, xbool1, xbn0, xbn1, xb_0, xb_1, reduceIte, one0, Option.isNone_none, ne_eq, not_true_eq_false, not_false_eq_true, if_true, if_false, ite_not, Bool.true_and, Bool.and_true]
  have hp := H.2.2.2.1 r hr
  cases hf : fp r with
  | none =>
    rw [hf] at hp
    have z := obits_0.mp (W3 hp) k hk
    have eg : gset1 q r k (q.1 64 l) = q := by
      unfold gset1
      rw [if_neg (fun e => he (by rw [← e]; exact z))]
    rw [eg]
    refine ⟨M, ow, ?_, H, stp_rf _ _ _⟩
    rw [bq_122_8, Option.isNone_none, cond_true, bq_122_36]
  | some a =>
    rw [hf] at hp
    obtain ⟨h2, s, gi, ta, uw, ⟨p1, po, pb⟩, sp, u1, u2, u3⟩ := hp
    rw [bq_122_8, Option.isNone_some, cond_false, bq_122_13, Option.bind_some, gI p1 3 rfl, Option.bind_some, Option.bind_some, g4, Option.bind_some]
    by_cases e8 : q.1 8 r = q.1 64 l
    · have hs : ∀ z, stp (fun t => t.1 ≠ 400 + r) 0 0 ow M ow (xset M a z) := fun z => stp_set (by rw [po]; exact fun h => h rfl)
      have ob' : obits (gset1 q r k (q.1 64 l)) r = obits (rup q 9 (4 * r + k) (Int32.ofInt (-1))) r := by
        unfold gset1
        by_cases e9 : q.1 9 (4 * r + k) = q.1 64 l
        · rw [if_pos e9]
        · rw [if_neg e9]
          have z : q.1 9 (4 * r + k) < 0 := Decidable.byContradiction (fun h => e9 ((W1 k hk h).trans e8))
          have oz : ∀ j, obit (rup q 9 (4 * r + k) (Int32.ofInt (-1))) r j = obit q r j := fun j => by
            by_cases ej : j = k
            · subst ej
              rw [obit_0.mpr z, obit_0, rup_at]
              decide
            · unfold obit
              rw [rup_nx _ _ _ _ (by omega)]
          unfold obits
          rw [oz 0, oz 1, oz 2, oz 3]
      have oo : ∀ k' i, k' ≠ 9 → (gset1 q r k (q.1 64 l)).1 k' i = q.1 k' i := fun k' i h => by
        unfold gset1
        split
        · rw [rup_ne _ _ _ _ h]
        · rfl
      refine ⟨xset M a (.inr (7, [vr (some s), vi gi, vi ta, vi (q.1 8 r), vi uw, vi (nI (obits (rup q 9 (4 * r + k) (Int32.ofInt (-1))) r))])), ow, ?_, Rep_pg (r := r) H B hr (hs _) ?_ (fun k' i h => oo k' i (by omega)) (fun k' i h _ => oo k' i h) (fun i h => ?_) (fun k' i => ?_), ext_of (hs _) (fun t ht => by omega) (Nat.le_refl _) (Nat.le_refl _)⟩
      · rw [if_pos e8, bq_122_24, Option.bind_some, gI p1 5 rfl, Option.bind_some, Option.bind_some, pV p1 5 rfl, Option.bind_some, bq_122_36, clr_bit hk]
        rfl
      · rw [hf]
        show (gset1 q r k (q.1 64 l)).1 2 r = 1 ∧ _
        rw [ob', oo 2 _ (by decide), oo 3 _ (by decide), oo 4 _ (by decide), oo 5 _ (by decide), oo 6 _ (by decide), oo 7 _ (by decide), oo 8 _ (by decide), oo 10 _ (by decide), oo 11 _ (by decide)]
        refine ⟨h2, s, gi, ta, uw, ⟨?_, po, pb⟩, isSpot_f sp (hs _) (fun t ht => by omega), u1, u2, fun h7 hb => u3 h7 (fun h0 => hb ?_)⟩
        · exact xset_at _ _ _
        · have z := obits_0.mp h0
          refine obits_0.mpr (fun j hj => ?_)
          by_cases ej : j = k
          · subst ej
            rw [rup_at]
            decide
          · rw [rup_nx _ _ _ _ (by omega)]
            exact z j hj
      · unfold gset1
        split
        · rw [rup_nx _ _ _ _ (by omega)]
        · rfl
      · unfold gset1
        split <;> rfl
    · have eg : gset1 q r k (q.1 64 l) = q := by
        unfold gset1
        rw [if_neg (fun e => ?_)]
        by_cases z : q.1 9 (4 * r + k) < 0
        · exact he (by rw [← e]; exact z)
        · exact e8 ((W1 k hk z).symm.trans e)
      rw [eg]
      refine ⟨M, ow, ?_, H, stp_rf _ _ _⟩
      rw [if_neg e8, bq_122_36]
theorem gdnq_9 (q : xrho) (r : Nat) (e : Int32) (i : Nat) : (gdnq q r e).1 9 i = if i = 4 * r + 1 then e else if i = 4 * r then e else q.1 9 i := by
  unfold gdnq
  rw [rup_ne _ _ _ _ (by decide), rup_ne _ _ _ _ (by decide), rup_ne _ _ _ _ (by decide), rup_ne _ _ _ _ (by decide), rup_r]
  simp only [true_and]
  by_cases e1 : i = 4 * r + 1
  · rw [if_pos e1, if_pos e1]
  · rw [if_neg e1, if_neg e1, rup_r]
    simp only [true_and]
    by_cases e2 : i = 4 * r
    · rw [if_pos e2, if_pos e2]
    · rw [if_neg e2, if_neg e2, rup_ne _ _ _ _ (by decide), rup_ne _ _ _ _ (by decide)]
theorem gdnq_o (q : xrho) (r : Nat) (e : Int32) {k i : Nat} (hk : k ≠ 5 ∧ k ≠ 6 ∧ k ≠ 7 ∧ k ≠ 9 ∧ k ≠ 10 ∧ k ≠ 11 ∨ k ≠ 9 ∧ i ≠ r) (h13 : k ≠ 13) : (gdnq q r e).1 k i = q.1 k i := by
  unfold gdnq
  rw [rup_ne _ _ _ _ h13, rup_r, if_neg (by omega), rup_r, if_neg (by omega), rup_r, if_neg (by omega), rup_ne _ _ _ _ (by omega), rup_ne _ _ _ _ (by omega), rup_r, if_neg (by omega), rup_r, if_neg (by omega)]
theorem gdnq_at (q : xrho) (r : Nat) (e : Int32) : (gdnq q r e).1 5 r = e ∧ (gdnq q r e).1 6 r = q.1 7 r ∧ (gdnq q r e).1 7 r = Int32.ofInt (-1) ∧ (gdnq q r e).1 10 r = q.1 6 r ∧ (gdnq q r e).1 11 r = q.1 7 r ∧ (gdnq q r e).1 13 0 = q.1 13 0 + nI 1 := by
  unfold gdnq
  simp (decide := true) only [rup_r, and_true, and_false, false_and, true_and, reduceIte, and_self]
theorem gdnq_9v {q : xrho} {r : Nat} {e : Int32} (h : obits q r = 0) (he : ¬ e < 0) : ¬ (gdnq q r e).1 9 (4 * r + 0) < 0 ∧ ¬ (gdnq q r e).1 9 (4 * r + 1) < 0 ∧ (gdnq q r e).1 9 (4 * r + 2) < 0 ∧ (gdnq q r e).1 9 (4 * r + 3) < 0 := by
  have h0 := obits_0.mp h
  refine ⟨?_, ?_, ?_, ?_⟩
  · rw [gdnq_9, if_neg (by omega), if_pos (by omega)]; exact he
  · rw [gdnq_9, if_pos rfl]; exact he
  · rw [gdnq_9, if_neg (by omega), if_neg (by omega)]; exact h0 2 (by decide)
  · rw [gdnq_9, if_neg (by omega), if_neg (by omega)]; exact h0 3 (by decide)
theorem abk4_d {q : xrho} {r : Nat} {e : Int32} (h : obits q r = 0) (he : ¬ e < 0) (h82 : isN q 82 0 1198) : abk4 (gdnq q r e) r = gowedL (gowedL (gdnq q r e) r 0 (nu q 82 0)) r 1 (nu q 82 0 + 1) := by
  obtain ⟨b0, b1, b2, b3⟩ := gdnq_9v h he
  have n82 : nu (gdnq q r e) 82 0 = nu q 82 0 := nu_e (gdnq_o _ _ _ (Or.inl (by decide)) (by decide))
  have a0 : abkO (gdnq q r e) r 0 = gowedL (gdnq q r e) r 0 (nu q 82 0) := by unfold abkO; rw [if_neg b0, n82]
  have m82 : nu (gowedL (gdnq q r e) r 0 (nu q 82 0)) 82 0 = nu q 82 0 + 1 := by
    show ((gowedL (gdnq q r e) r 0 (nu q 82 0)).1 82 0).toNatClampNeg = _
    rw [gowedL_82f, nI_clamp (by have := h82.2; omega)]
  have a1 : abkO (gowedL (gdnq q r e) r 0 (nu q 82 0)) r 1 = gowedL (gowedL (gdnq q r e) r 0 (nu q 82 0)) r 1 (nu q 82 0 + 1) := by
    unfold abkO
    rw [gowedL_nef (Or.inl (by decide)) (by decide), if_neg b1, m82]
  have a23 : ∀ k, (gdnq q r e).1 9 (4 * r + k) < 0 → abkO (gowedL (gowedL (gdnq q r e) r 0 (nu q 82 0)) r 1 (nu q 82 0 + 1)) r k = gowedL (gowedL (gdnq q r e) r 0 (nu q 82 0)) r 1 (nu q 82 0 + 1) := fun k hk => by
    unfold abkO
    rw [gowedL_nef (Or.inl (by decide)) (by decide), gowedL_nef (Or.inl (by decide)) (by decide), if_pos hk]
  unfold abk4
  rw [a0, a1, a23 2 b2, a23 3 b3]
theorem R_done {T0 MI X n l h r : Nat} {ad : Nat → Nat} {fh fp : Nat → Option Nat} {cl ll dl : List Nat} {aa : Nat → Nat} {pk : Nat → Option Nat} {q : xrho} {L : xLs} {M : xM} {ow : xOw} {o2 : Option xV} (H : Rep T0 X n ad fh fp cl ll dl aa pk q L M ow) (G : gOK q) (hM : mvOK q) (hl : l < ll.length) (e63 : q.1 63 l = nI r) (hr : r < 40) (h82 : ll.length + 2 ≤ 1200) : ∃ M' ow' ll' pk', xZ T0 MI 116 0 [some (vr (some X)), some (vr (some ll[l])), o2] [] M = some (none, M') ∧ Rep T0 X n ad fh fp cl ll' dl aa pk' (gmvd q 6 h r (q.1 64 l)) L M' ow' ∧ stp ext 25 (4 * nu q 82 0 + 409) ow M ow' M' := by
  have B := G.1
  have n82 : ll.length = nu q 82 0 := H.2.2.2.2.2.2.1.1
  obtain ⟨⟨g0, g1, g2, g3, g4⟩, -⟩ := lt_g H hl
  rw [e63] at g3
  have pe : xZ T0 MI 89 0 [some (vr (some X)), some (vi (nI r))] [] M = some (some (vr (fp r)), M) := by
    rw [c_pageOf H.2.1, ix_i hr (by decide)]
    rfl
  have e0 : gmvd q 6 h r (q.1 64 l) = if q.1 2 r = 0 ∨ q.1 7 r < 0 ∨ q.1 8 r ≠ q.1 64 l then q else gowedL (gowedL (gdnq q r (q.1 64 l)) r 0 (nu q 82 0)) r 1 (nu q 82 0 + 1) := rfl
  rw [e0, bq_116_0, Option.bind_some, g3, Option.bind_some, (ho_c H.2.1).1, cond_true, pe]
  simp (decide := true) (disch := omega) only [Option.bind_some, xasI, xasL, xasR, xin_t, cond_true, cond_false, nI_clamp, k_0, k_1, k_2, k_3, k_4, k_5, k_6, k_40, k_60, k_500, k_10000, pk_mul, nI_add, nI_e0, nI_ee, nI_leI, nI_ltI, xbool0, xbool1, xbn0, xbn1, xb_0, xb_1, reduceIte, one0, Option.isNone_none, ne_eq, not_true_eq_false, not_false_eq_true, if_true, if_false, ite_not, Bool.true_and, Bool.and_true]
  have hp := H.2.2.2.1 r hr
  cases hf : fp r with
  | none =>
    rw [hf] at hp
    rw [if_pos (Or.inl (show q.1 2 r = 0 from hp))]
    refine ⟨M, ow, ll, pk, ?_, H, stp_w (stp_rf _ _ _) (fun _ h => h) (by omega) (by omega)⟩
    rw [bq_116_8, Option.isNone_none, cond_true, bq_116_50]
  | some a =>
    rw [hf] at hp
    obtain ⟨h2, s, gi, ta, uw, pg, sp, u1, u2, -⟩ := hp
    have p1 := pg.1
    rw [bq_116_8, Option.isNone_some, cond_false, bq_116_13, Option.bind_some, gI p1 4 rfl, Option.bind_some]
    by_cases h7 : q.1 7 r < 0
    · rw [if_pos (Or.inr (Or.inl h7))]
      refine ⟨M, ow, ll, pk, ?_, H, stp_w (stp_rf _ _ _) (fun _ h => h) (by omega) (by omega)⟩
      rw [u1 h7, if_pos rfl, bq_116_50]
    · obtain ⟨v1, v2, v3⟩ := u2 h7
      rw [v1, if_neg one0, bq_116_20, Option.bind_some, gI p1 3 rfl, Option.bind_some, Option.bind_some, g4, Option.bind_some]
      by_cases h8 : q.1 8 r = q.1 64 l
      · obtain ⟨ob, h80⟩ := hM r hr h2 h7
        rw [h8] at h80
        rw [if_pos h8, if_neg (show ¬ (q.1 2 r = 0 ∨ q.1 7 r < 0 ∨ ¬ q.1 8 r = q.1 64 l) from fun e => e.elim (bk0 h2) (fun e => e.elim h7 (fun e => e h8)))]
        obtain ⟨M1, ow1, e1, pg1, sp1, s1⟩ := pg_end (T0 := T0) (MI := MI) pg sp hr
        obtain ⟨q5, q6, q7, q10, q11, q13⟩ := gdnq_at q r (q.1 64 l)
        obtain ⟨g, ho, hg⟩ := FH_f H.2.1 s1 (fun t a => by omega) (fun t a => by omega) (qe_rf _ _ _) (qe_rf _ _ _)
        obtain ⟨M2, e2, ho2, s2⟩ := oHo_w (mk' := q.1 12 0) (ov' := q.1 13 0 + nI 1) (un' := q.1 14 0) ho 7 (vi (q.1 13 0 + nI 1)) (by decide) rfl
        have s12 : stp (fun t => t.1 ≠ 1 ∧ t.1 ≠ 400 + r) 1 5 ow M ow1 M2 := stp_tr (stp_w s1 (fun t ht => by omega) (Nat.le_refl _) (Nat.le_refl _)) (stp_w s2 (fun t ht e => ht.1 (by rw [e])) (Nat.le_refl _) (Nat.le_refl _))
        have sO : stp (fun t => t.1 ≠ 1) 0 0 ow1 M1 ow1 M2 := stp_w s2 (fun t ht e => ht (by rw [e])) (Nat.le_refl _) (Nat.le_refl _)
        have uo : ∀ k i, (k ≠ 5 ∧ k ≠ 6 ∧ k ≠ 7 ∧ k ≠ 9 ∧ k ≠ 10 ∧ k ≠ 11 ∨ k ≠ 9 ∧ i ≠ r) → k ≠ 13 → (gdnq q r (q.1 64 l)).1 k i = q.1 k i := fun k i => gdnq_o q r _
        have ob3 : obits (gdnq q r (q.1 64 l)) r = 3 := by
          obtain ⟨b0, b1, b2, b3⟩ := gdnq_9v ob h80
          unfold obits obit
          rw [if_neg b0, if_neg b1, if_pos b2, if_pos b3]
        have H1 : Rep T0 X n ad fh fp cl ll dl aa pk (gdnq q r (q.1 64 l)) L M2 ow1 := by
          refine Rep_bk H B (stp_w s12 (fun t ht => by omega) (Nat.le_refl _) (Nat.le_refl _)) ⟨g, ?_, fun i hi => by rw [hg i hi, uo 1 i (by omega) (by omega)]⟩ (fun t ht => ?_) (fun k i a => uo k i (by omega) (by omega)) (fun _ _ => rfl)
          · rw [q13, uo 12 0 (by omega) (by omega), uo 14 0 (by omega) (by omega)]
            exact ho2
          · by_cases et : t = r
            · subst et
              rw [hf]
              show (gdnq q t (q.1 64 l)).1 2 t = 1 ∧ _
              rw [ob3, q5, q6, q7, q10, q11, uo 2 t (by omega) (by omega), uo 3 t (by omega) (by omega), uo 4 t (by omega) (by omega), uo 8 t (by omega) (by omega)]
              have pg2 : oPg M2 ow1 t a M.1 gi ta (q.1 8 t) 0 (nI 3) := oPg_f pg1 sO (fun t ht => by omega)
              exact ⟨h2, M.1, gi, ta, 0, pg2, by rw [← v3, ← h8]; exact isSpot_f sp1 sO (fun t ht => by omega), fun _ => rfl, fun h => absurd (show Int32.ofInt (-1) < 0 by decide) h, fun _ _ => ⟨v2, v3⟩⟩
            · refine rPage_f (H.2.2.2.1 t ht) s12 (fun t a => by omega) (fun t a => by omega) (fun k a b c => uo k t (by omega) (by omega)) ?_
              have u9 : ∀ k, k < 4 → (gdnq q r (q.1 64 l)).1 9 (4 * t + k) = q.1 9 (4 * t + k) := fun k hk => by rw [gdnq_9, if_neg (by omega), if_neg (by omega)]
              unfold obits obit
              rw [u9 0 (by decide), u9 1 (by decide), u9 2 (by decide), u9 3 (by decide)]
        have G1 : gOK (gdnq q r (q.1 64 l)) := gOK_e G (fun k i hk => uo k i (by omega) (by omega))
        have W1 : owR (gdnq q r (q.1 64 l)) r := by
          refine ⟨fun k hk h9 => ?_, fun h => absurd (by rw [q7]; decide) h⟩
          have hz := obits_0.mp ob k hk
          rw [gdnq_9] at h9 ⊢
          rw [uo 8 r (by omega) (by omega), h8]
          by_cases e3 : 4 * r + k = 4 * r + 1
          · rw [if_pos e3]
          · rw [if_neg e3] at h9 ⊢
            by_cases e2 : 4 * r + k = 4 * r
            · rw [if_pos e2]
            · rw [if_neg e2] at h9
              exact absurd hz h9
        have C1 : c4 (gdnq q r (q.1 64 l)) r = 2 := by
          obtain ⟨b0, b1, b2, b3⟩ := gdnq_9v ob h80
          unfold c4 cO
          rw [if_neg b0, if_neg b1, if_pos b2, if_pos b3]
        obtain ⟨M3, ow3, ll3, pk3, e3, H3, G3, s3, n3⟩ := R_powed (T0 := T0) (MI := MI) H1 G1 hr hf W1 (by omega)
        have q34 := abk4_d ob h80 ⟨B.2.2.1.1, by omega⟩
        rw [q34] at H3
        refine ⟨M3, ow3, ll3, pk3, ?_, H3, ?_⟩
        · rw [bq_116_31, Option.bind_some, gC p1, cond_true, e1]
          simp (decide := true) (disch := omega) only [Option.bind_some, xasI, xasL, xasR, xin_t, cond_true, cond_false, nI_clamp, k_0, k_1, k_2, k_3, k_4, k_5, k_6, k_40, k_60, k_500, k_10000, pk_mul, nI_add, nI_e0, nI_ee, nI_leI, nI_ltI, xbool0, xbool1, xbn0, xbn1, xb_0, xb_1, reduceIte, one0, Option.isNone_none, ne_eq, not_true_eq_false, not_false_eq_true, if_true, if_false, ite_not, Bool.true_and, Bool.and_true]
          rw [bq_116_35, (ho_c ⟨g, ho, hg⟩).2.2.2.2.2.2.2.2.1, Option.bind_some, k_1, e2, Option.bind_some, (ho_c H1.2.1).1, cond_true, e3]
          simp (decide := true) (disch := omega) only [Option.bind_some, xasI, xasL, xasR, xin_t, cond_true, cond_false, nI_clamp, k_0, k_1, k_2, k_3, k_4, k_5, k_6, k_40, k_60, k_500, k_10000, pk_mul, nI_add, nI_e0, nI_ee, nI_leI, nI_ltI, xbool0, xbool1, xbn0, xbn1, xb_0, xb_1, reduceIte, one0, Option.isNone_none, ne_eq, not_true_eq_false, not_false_eq_true, if_true, if_false, ite_not, Bool.true_and, Bool.and_true]
          rw [bq_116_50]
        · have f1 := phi_s ll.length
          have f2 := phi_s (ll.length + 1)
          have f3 : phi ll3.length = phi (ll.length + 1 + 1) := by rw [n3, C1]
          exact stp_w (stp_tr (ext_of s12 (fun t ht => by rcases ht with h | h <;> omega) (Nat.le_refl _) (Nat.le_refl _)) s3.2.2) (fun _ h => h) (by omega) (by omega)
      · rw [if_pos (Or.inr (Or.inr h8)), if_neg h8]
        refine ⟨M, ow, ll, pk, ?_, H, stp_w (stp_rf _ _ _) (fun _ h => h) (by omega) (by omega)⟩
        rw [bq_116_50]
