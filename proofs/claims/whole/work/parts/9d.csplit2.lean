/-! split -/
noncomputable def asplit (q : xrho) (L : xLs) (x key : Int32) : Int32 × xrho × xLs := match grng q x with
  | none => (Int32.ofInt (-1), gref q 1, L)
  | some r => if key ≤ q.1 3 r ∨ q.1 4 r ≤ key then (Int32.ofInt (-3), gref q 3, L) else if q.1 0 0 = 0 ∨ q.1 0 (nu q 6 r) = 0 then (Int32.ofInt (-4), gref q 4, L) else if tI (gfree q r (nu q 6 r)) = 0 then (Int32.ofInt (-5), gref q 5, L) else if nu q 12 0 = 40 then (Int32.ofInt (-6), gref q 6, L) else (nI (nu q 12 0), gspq q r (nu q 6 r) (nu q 12 0) key, spR L.1 (40 * nu q 6 r + r) (40 * nu q 6 r + nu q 12 0) key, L.2.1, spK L.2.2.1 (40 * nu q 6 r + r) (40 * nu q 6 r + nu q 12 0), L.2.2.2)
def frP (q : xrho) : Prop := ∀ r, r < 40 → nu q 12 0 ≤ r → q.1 8 r = 0 ∧ obits q r = 0
theorem hW_v (h : Nat → Int32) (x y z : Int32) : hW h x y z 0 = nI 1 ∧ hW h x y z 1 = x ∧ hW h x y z 2 = y ∧ hW h x y z 3 = z ∧ hW h x y z 6 = h 6 ∧ hW h x y z 7 = h 7 := ⟨rfl, rfl, rfl, rfl, rfl, rfl⟩
theorem rup_cg {z z' : xrho} {f j k i : Nat} {x : Int32} (h : z.1 k i = z'.1 k i) : (rup z f j x).1 k i = (rup z' f j x).1 k i := by
  rw [rup_r, rup_r, h]
def gsp1 (q : xrho) (r h n : Nat) (key : Int32) : xrho := rup (rup (rup (rup (rup (rup q 15 (40 * h + n) (nI 1)) 16 (40 * h + n) key) 17 (40 * h + n) (q.1 17 (40 * h + r))) 17 (40 * h + r) key) 18 (40 * h + r) (q.1 5 r + nI 1)) 18 (40 * h + n) (q.1 5 r + nI 1)
theorem gspq_1 (q : xrho) (r h n : Nat) (key : Int32) {k i : Nat} (hk : k = 0 ∨ 15 ≤ k) : (gspq q r h n key).1 k i = (gsp1 q r h n key).1 k i := by
  unfold gspq gsp1
  refine rup_cg (rup_cg (rup_cg (rup_cg (rup_cg (rup_cg ?_)))))
  unfold gbook
  rw [rup_ne _ _ _ _ (by omega), rup_ne _ _ _ _ (by omega), rup_ne _ _ _ _ (by omega), rup_ne _ _ _ _ (by omega), rup_ne _ _ _ _ (by omega), rup_ne _ _ _ _ (by omega), rup_ne _ _ _ _ (by omega), rup_ne _ _ _ _ (by omega), rup_ne _ _ _ _ (by omega)]
theorem gspq_b (q : xrho) (r h n : Nat) (key : Int32) (i : Nat) : (gspq q r h n key).1 2 i = (if i = n then 1 else q.1 2 i) ∧ (gspq q r h n key).1 3 i = (if i = n then key else q.1 3 i) ∧ (gspq q r h n key).1 4 i = (if i = r then key else if i = n then q.1 4 r else q.1 4 i) ∧ (gspq q r h n key).1 5 i = (if i = n then q.1 5 r + nI 1 else if i = r then q.1 5 r + nI 1 else q.1 5 i) ∧ (gspq q r h n key).1 6 i = (if i = n then nI h else q.1 6 i) ∧ (gspq q r h n key).1 7 i = (if i = n then Int32.ofInt (-1) else q.1 7 i) := by
  unfold gspq gbook
  simp (decide := true) only [rup_r, and_true, and_false, false_and, true_and, reduceIte, and_self]
  rfl
theorem gspq_o (q : xrho) (r h n : Nat) (key : Int32) {k i : Nat} (hk : (8 ≤ k ∧ k ≤ 11) ∨ k = 1 ∨ k = 13 ∨ k = 14) : (gspq q r h n key).1 k i = q.1 k i := by
  unfold gspq gbook
  rw [rup_ne _ _ _ _ (by omega), rup_ne _ _ _ _ (by omega), rup_ne _ _ _ _ (by omega), rup_ne _ _ _ _ (by omega), rup_ne _ _ _ _ (by omega), rup_ne _ _ _ _ (by omega), rup_ne _ _ _ _ (by omega), rup_ne _ _ _ _ (by omega), rup_ne _ _ _ _ (by omega), rup_ne _ _ _ _ (by omega), rup_ne _ _ _ _ (by omega), rup_ne _ _ _ _ (by omega), rup_ne _ _ _ _ (by omega), rup_ne _ _ _ _ (by omega), rup_ne _ _ _ _ (by omega)]
theorem gspq_12 (q : xrho) (r h n : Nat) (key : Int32) : (gspq q r h n key).1 12 0 = nI (n + 1) := by
  unfold gspq gbook
  simp (decide := true) only [rup_r, and_true, and_false, false_and, true_and, reduceIte, and_self]
theorem gsp1_v (q : xrho) (r h n : Nat) (key : Int32) (p : Nat) : (gsp1 q r h n key).1 15 p = (if p = 40 * h + n then nI 1 else q.1 15 p) ∧ (gsp1 q r h n key).1 16 p = (if p = 40 * h + n then key else q.1 16 p) ∧ (gsp1 q r h n key).1 17 p = (if p = 40 * h + r then key else if p = 40 * h + n then q.1 17 (40 * h + r) else q.1 17 p) ∧ (gsp1 q r h n key).1 18 p = (if p = 40 * h + n then q.1 5 r + nI 1 else if p = 40 * h + r then q.1 5 r + nI 1 else q.1 18 p) := by
  unfold gsp1
  simp (decide := true) only [rup_r, and_true, and_false, false_and, true_and, reduceIte, and_self]
theorem gsp1_o (q : xrho) (r h n : Nat) (key : Int32) {k i : Nat} (hk : ¬ (15 ≤ k ∧ k ≤ 18)) : (gsp1 q r h n key).1 k i = q.1 k i := by
  unfold gsp1
  rw [rup_ne _ _ _ _ (by omega), rup_ne _ _ _ _ (by omega), rup_ne _ _ _ _ (by omega), rup_ne _ _ _ _ (by omega), rup_ne _ _ _ _ (by omega), rup_ne _ _ _ _ (by omega)]
/-- after the checks: the cut, the book -/
theorem R_split {T0 MI X n r a : Nat} {ad : Nat → Nat} {fh fp : Nat → Option Nat} {cl ll dl : List Nat} {aa : Nat → Nat} {pk : Nat → Option Nat} {q : xrho} {L : xLs} {M : xM} {ow : xOw} {key : Int32} {s : Nat} {o5 o6 o7 : Option xV} (H : Rep T0 X n ad fh fp cl ll dl aa pk q L M ow) (B : bds q) (K : bkOK q) (hP : frP q) (hr : r < nu q 12 0) (hn : nu q 12 0 < 40) (ha : fp r = some a) (hs : xgetR M a 7 0 = some (some s)) (hf : gfree q r (nu q 6 r)) : ∃ M' ow', xZ T0 MI 73 105 [some (vr (some X)), some (vi (nI r)), some (vi key), some (vr (some a)), some (vr (some s)), o5, o6, o7] [] M = some (some (vi (nI (nu q 12 0))), M') ∧ RepE T0 X n (gspq q r (nu q 6 r) (nu q 12 0) key) (spR L.1 (40 * nu q 6 r + r) (40 * nu q 6 r + nu q 12 0) key, L.2.1, spK L.2.2.1 (40 * nu q 6 r + r) (40 * nu q 6 r + nu q 12 0), L.2.2.2) M' ow' ∧ stp ext 14 245 ow M ow' M' := by
  have hr40 : r < 40 := by omega
  have h6 := K.2.2.2.2.2.1 r hr40
  have h66 : nu q 6 r < 6 := by have := h6.2; omega
  have hX := (ho_c H.2.1).1
  have hne : r ≠ nu q 12 0 := by omega
  obtain ⟨hb, f, f1, f2, f3⟩ := H.2.2.1 (nu q 6 r) h66
  have h15 : q.1 15 (40 * nu q 6 r + r) = nI 1 := hf.2.2
  have hpg := H.2.2.2.1 r hr40
  rw [ha] at hpg
  obtain ⟨h2, s', gi, ta, uw, pg, sp, u1, u2, u3⟩ := hpg
  have es : s' = s := by
    have := gR pg.1 0 (show _ = some (vr (some s')) from rfl)
    rw [hs] at this
    cases this
    rfl
  subst es
  have g4 := (sp_g sp).2.2.2.2.2
  rw [h6.1] at g4
  cases hfr : f r with
  | none =>
    have hN := f3 r hr40
    rw [hfr] at hN
    rw [hN.1] at h15
    exact absurd h15 (by decide)
  | some b0 =>
    have ch1 : xZ T0 MI 28 0 [some (vr (some hb)), some (vi (nI r))] [] M = some (some (vr (some b0)), M) := by
      obtain ⟨ar, gv, gs, oh, -⟩ := f2
      exact c_hold1 oh hr40 hfr
    have hbc : xcls M hb 3 = true := by
      obtain ⟨ar, gv, gs, oh, -⟩ := f2
      exact gC oh.1
    obtain ⟨M1, ow1, b, f', ch2, H1, F2, F3, fb, fo, s1⟩ := R_hold (T0 := T0) (MI := MI) (r := nu q 12 0) H B h66 hn f1 f2 f3
    have fb0 : f' r = some b0 := (fo r hne).trans hfr
    have N0 := F3 r hr40
    rw [fb0] at N0
    have N1 := F3 (nu q 12 0) hn
    rw [fb] at N1
    obtain ⟨ra, ka, sa, hh, sn, R, K0, S, hA, ti⟩ := N0
    obtain ⟨rb, kb, sb, hh', sn', R', K', S', hB, tj⟩ := N1
    obtain ⟨M2, ec, cA, cB, s2⟩ := c_cut (T0 := T0) (MI := MI) (key := key) (z := q.1 5 r + nI 1) (show 100 + (40 * nu q 6 r + r) ≠ 100 + (40 * nu q 6 r + nu q 12 0) by omega) hA hB
    obtain ⟨⟨t1, t2, t3⟩, tR, tK⟩ := ti.2.2.1 (by rw [h15]; decide)
    have ng := gsp1_v q r (nu q 6 r) (nu q 12 0) key
    have H2 : Rep T0 X n ad fh fp cl ll dl aa pk (gsp1 q r (nu q 6 r) (nu q 12 0) key) (spR L.1 (40 * nu q 6 r + r) (40 * nu q 6 r + nu q 12 0) key, L.2.1, spK L.2.2.1 (40 * nu q 6 r + r) (40 * nu q 6 r + nu q 12 0), L.2.2.2) M2 ow1 := by
      refine Rep_hd2 H1 B h66 hr40 hn f1 F2 F3 s2 ?_ ?_ (fun k i h => gsp1_o _ _ _ _ _ (by omega)) (fun k p hp hp2 hk => ?_) (fun _ _ _ _ => rfl) (fun p hp hp2 => ?_) (fun _ _ _ => rfl) (fun p c hp hp2 hc => ?_) rfl
      · rw [fb0]
        refine ⟨ra, ka, sa, _, none, _, _, _, cA, ?_⟩
        obtain ⟨w0, w1, w2, w3, w6, w7⟩ := hW_v hh (hh 1) key (q.1 5 r + nI 1)
        unfold tie
        rw [(ng _).1, (ng _).2.1, (ng _).2.2.1, (ng _).2.2.2, if_neg (by omega), if_neg (by omega), if_pos rfl, if_neg (by omega), if_pos rfl, h15, w0, w1, w2, w3, w6, w7, gsp1_o _ _ _ _ _ (k := 30) (by decide), gsp1_o _ _ _ _ _ (k := 31) (by decide)]
        refine ⟨⟨rfl, ti.1.2.1, ti.1.2.2⟩, fun h => absurd h (by decide), fun _ => ⟨⟨t1, rfl, rfl⟩, ?_, fun c hc => ?_⟩, fun h => ?_, fun h => ?_, fun h => absurd h (by decide)⟩
        · unfold spR
          dsimp only
          rw [va_up_ne _ _ (by omega), va_up_self, tR]
        · unfold spK
          dsimp only
          rw [if_neg (by omega)]
          exact tK c hc
        · rcases h with h | h | h <;> exact absurd h (by decide)
        · rcases h with h | h <;> exact absurd h (by decide)
      · rw [fb]
        refine ⟨rb, kb, sb, _, none, _, _, _, cB, ?_⟩
        obtain ⟨w0, w1, w2, w3, w6, w7⟩ := hW_v hh' key (hh 2) (q.1 5 r + nI 1)
        unfold tie
        rw [(ng _).1, (ng _).2.1, (ng _).2.2.1, (ng _).2.2.2, if_pos rfl, if_pos rfl, if_neg (by omega), if_pos rfl, if_pos rfl, w0, w1, w2, w3, w6, w7, gsp1_o _ _ _ _ _ (k := 30) (by decide), gsp1_o _ _ _ _ _ (k := 31) (by decide)]
        refine ⟨⟨rfl, tj.1.2.1, tj.1.2.2⟩, fun h => absurd h (by decide), fun _ => ⟨⟨rfl, t2, rfl⟩, ?_, fun c hc => ?_⟩, fun h => ?_, fun h => ?_, fun h => absurd h (by decide)⟩
        · unfold spR
          dsimp only
          rw [va_up_self, tR]
        · unfold spK
          dsimp only
          rw [if_pos (by omega), show 6 * (40 * nu q 6 r + nu q 12 0) + c - 6 * (40 * nu q 6 r + nu q 12 0) = c by omega]
          exact tK c hc
        · rcases h with h | h | h <;> exact absurd h (by decide)
        · rcases h with h | h <;> exact absurd h (by decide)
      · rcases hk with hk | hk
        · rcases (show k = 15 ∨ k = 16 ∨ k = 17 ∨ k = 18 by omega) with rfl | rfl | rfl | rfl
          · rw [(ng _).1, if_neg hp2]
          · rw [(ng _).2.1, if_neg hp2]
          · rw [(ng _).2.2.1, if_neg hp, if_neg hp2]
          · rw [(ng _).2.2.2, if_neg hp2, if_neg hp]
        · exact gsp1_o _ _ _ _ _ (by omega)
      · unfold spR
        dsimp only
        rw [va_up_ne _ _ hp2, va_up_ne _ _ hp]
      · unfold spK
        dsimp only
        rw [if_neg (by omega)]
    have B2 : bds (gsp1 q r (nu q 6 r) (nu q 12 0) key) := (bds_e B (fun k i hk => gsp1_o _ _ _ _ _ (by omega)))
    have hpg2 := H2.2.2.2.1 r hr40
    rw [ha] at hpg2
    obtain ⟨-, s2', gi2, ta2, uw2, pg2, sp2, v1, v2, v3⟩ := hpg2
    have pg1 := oPg_f (oPg_f pg s1 (fun t ht => by omega)) s2 (fun t ht => by show t.1 ≠ _ ∧ t.1 ≠ _; omega)
    have sp1 := isSpot_f (isSpot_f sp s1 (fun t ht => by omega)) s2 (fun t ht => by show t.1 ≠ _ ∧ t.1 ≠ _; omega)
    obtain ⟨g, ho, hg⟩ := H2.2.1
    have e12 := B.2.2.2.1.1
    have ho' : oHo T0 M2 ow1 X ad fh fp cl ll dl (nI (nu q 12 0)) ((gsp1 q r (nu q 6 r) (nu q 12 0) key).1 13 0) ((gsp1 q r (nu q 6 r) (nu q 12 0) key).1 14 0) g := by
      rw [← e12, ← gsp1_o q r (nu q 6 r) (nu q 12 0) key (k := 12) (i := 0) (by decide)]
      exact ho
    obtain ⟨M3, ow3, sr, an, sn3, e3, ho3, pgr, spr, pgn, spn, s3⟩ := c_spe (T0 := T0) (MI := MI) (key := key) (e' := q.1 5 r + nI 1) (o1 := none) (o5 := some (vr (some b0))) (o6 := some (vr (some b))) ho' hr40 hn hne pg1 sp1
    have gb := gspq_b q r (nu q 6 r) (nu q 12 0) key
    have go : ∀ k i, ((8 ≤ k ∧ k ≤ 11) ∨ k = 1 ∨ k = 13 ∨ k = 14) → (gspq q r (nu q 6 r) (nu q 12 0) key).1 k i = q.1 k i := fun k i hk => gspq_o _ _ _ _ _ hk
    have ob : ∀ t, obits (gspq q r (nu q 6 r) (nu q 12 0) key) t = obits q t := fun t => obits_e (fun k i a b => go k i (by omega)) t
    refine ⟨M3, ow3, ?_, ⟨_, _, _, _, _, _, _, _, Rep_bk (fp' := va_up fp (nu q 12 0) (some an)) (q' := gspq q r (nu q 6 r) (nu q 12 0) key) H2 B2 (stp_w s3 (fun t ht => by omega) (Nat.le_refl _) (Nat.le_refl _)) ⟨g, ?_, fun i hi => ?_⟩ (fun t ht => ?_) (fun k i hk => gspq_1 _ _ _ _ _ hk) (fun _ _ => rfl)⟩, ?_⟩
    · have e105 : xZ T0 MI 92 0 [some (vr (some X)), some (vi (nI (nu q 6 r))), some (vi (nI r)), none] [] M = some (some (vr (some b0)), M) := x_holdAt H.2.1 h66 f1 hbc ch1
      have e115 : xZ T0 MI 92 0 [some (vr (some X)), some (vi (nI (nu q 6 r))), some (vi (nI (nu q 12 0))), none] [] M = some (some (vr (some b)), M1) := x_holdAt H.2.1 h66 f1 hbc ch2
      have g3 := (sp_g (isSpot_f sp s1 (fun t ht => by omega))).2.2.2.2.1
      have mk := (ho_c H.2.1).2.2.2.2.2.2.2.1
      rw [e12] at mk
      rw [bq_73_105, Option.bind_some, g4, Option.bind_some, hX, cond_true, e105]
      simp (decide := true) (disch := omega) only [Option.bind_some, xasI, xasL, xasR, xin_t, cond_true, cond_false, nI_clamp, k_0, k_1, k_2, k_3, k_4, k_5, k_6, k_40, k_60, k_500, k_10000, pk_mul, nI_add, nI_e0, nI_ee, nI_leI, nI_ltI, xbool0, xbool1, xbn0, xbn1, xb_0, xb_1, reduceIte, one0, Option.isNone_none, ne_eq, not_true_eq_false, not_false_eq_true, if_true, if_false, ite_not, Bool.true_and, Bool.and_true]
      rw [bq_73_115, Option.bind_some, g4, Option.bind_some, mk, Option.bind_some, hX, cond_true, e115]
      simp (decide := true) (disch := omega) only [Option.bind_some, xasI, xasL, xasR, xin_t, cond_true, cond_false, nI_clamp, k_0, k_1, k_2, k_3, k_4, k_5, k_6, k_40, k_60, k_500, k_10000, pk_mul, nI_add, nI_e0, nI_ee, nI_leI, nI_ltI, xbool0, xbool1, xbn0, xbn1, xb_0, xb_1, reduceIte, one0, Option.isNone_none, ne_eq, not_true_eq_false, not_false_eq_true, if_true, if_false, ite_not, Bool.true_and, Bool.and_true, bq_73_130, Option.isNone_some, bq_73_137]
      rw [bq_73_149, Option.bind_some, g3, Option.bind_some, Option.bind_some, hA_c hA, cond_true, k_1, ec]
      simp (decide := true) (disch := omega) only [Option.bind_some, xasI, xasL, xasR, xin_t, cond_true, cond_false, nI_clamp, k_0, k_1, k_2, k_3, k_4, k_5, k_6, k_40, k_60, k_500, k_10000, pk_mul, nI_add, nI_e0, nI_ee, nI_leI, nI_ltI, xbool0, xbool1, xbn0, xbn1, xb_0, xb_1, reduceIte, one0, Option.isNone_none, ne_eq, not_true_eq_false, not_false_eq_true, if_true, if_false, ite_not, Bool.true_and, Bool.and_true]
      exact e3
    · rw [gspq_12, go 13 0 (by omega), go 14 0 (by omega)]
      rw [gsp1_o _ _ _ _ _ (k := 13) (by decide), gsp1_o _ _ _ _ _ (k := 14) (by decide)] at ho3
      exact ho3
    · rw [hg i hi, go 1 i (by omega), gsp1_o _ _ _ _ _ (by omega)]
    · by_cases et : t = nu q 12 0
      · subst et
        rw [va_up_self]
        show (gspq q r (nu q 6 r) (nu q 12 0) key).1 2 (nu q 12 0) = 1 ∧ _
        obtain ⟨z8, z9⟩ := hP (nu q 12 0) ht (Nat.le_refl _)
        rw [(gb _).1, (gb _).2.1, (gb _).2.2.1, (gb _).2.2.2.1, (gb _).2.2.2.2.1, (gb _).2.2.2.2.2, if_pos rfl, if_pos rfl, if_neg (Ne.symm hne), if_pos rfl, if_pos rfl, if_pos rfl, if_pos rfl, go 8 _ (by omega), ob, z8, z9]
        exact ⟨rfl, sn3, 0, 0, 0, pgn, by rw [← h6.1]; exact spn, fun _ => rfl, fun h => absurd (show Int32.ofInt (-1) < 0 by decide) h, fun _ h => absurd rfl h⟩
      · rw [va_up_ne _ _ et]
        by_cases er : t = r
        · subst er
          rw [ha]
          show (gspq q t (nu q 6 t) (nu q 12 0) key).1 2 t = 1 ∧ _
          rw [(gb _).1, (gb _).2.1, (gb _).2.2.1, (gb _).2.2.2.1, (gb _).2.2.2.2.1, (gb _).2.2.2.2.2, if_neg hne, if_neg hne, if_pos rfl, if_neg hne, if_pos rfl, if_neg hne, if_neg hne, go 8 _ (by omega), go 10 _ (by omega), go 11 _ (by omega), ob]
          exact ⟨h2, sr, gi, ta, uw, pgr, spr, u1, u2, u3⟩
        · refine rPage_f (H2.2.2.2.1 t ht) s3 (fun t ht => by omega) (fun t ht => by omega) (fun k k1 k2 k3 => ?_) ?_
          · rw [gsp1_o _ _ _ _ _ (by omega)]
            rcases (show k = 2 ∨ k = 3 ∨ k = 4 ∨ k = 5 ∨ k = 6 ∨ k = 7 ∨ k = 8 ∨ k = 10 ∨ k = 11 by omega) with rfl | rfl | rfl | rfl | rfl | rfl | rfl | rfl | rfl
            · rw [(gb _).1, if_neg et]
            · rw [(gb _).2.1, if_neg et]
            · rw [(gb _).2.2.1, if_neg er, if_neg et]
            · rw [(gb _).2.2.2.1, if_neg et, if_neg er]
            · rw [(gb _).2.2.2.2.1, if_neg et]
            · rw [(gb _).2.2.2.2.2, if_neg et]
            · exact go 8 t (by omega)
            · exact go 10 t (by omega)
            · exact go 11 t (by omega)
          · rw [ob]
            exact (obits_e (fun k i a b => gsp1_o _ _ _ _ _ (by omega)) t).symm
    · exact stp_w (stp_tr (stp_tr (ext_of s1 (fun t ht => by omega) (Nat.le_refl _) (Nat.le_refl _)) (ext_of s2 (fun t ht => by show t.1 ≠ _ ∧ t.1 ≠ _; omega) (Nat.le_refl _) (Nat.le_refl _))) (ext_of s3 (fun t ht => by omega) (Nat.le_refl _) (Nat.le_refl _))) (fun _ h => h) (by omega) (by omega)
theorem P_split {T0 MI X n : Nat} {q : xrho} {L : xLs} {M : xM} {ow : xOw} {x key : Int32} {o3 o4 o5 o6 o7 : Option xV} (H : RepE T0 X n q L M ow) (B : bds q) (K : bkOK q) (hP : frP q) : ∃ M' ow', xZ T0 MI 73 0 [some (vr (some X)), some (vi x), some (vi key), o3, o4, o5, o6, o7] [] M = some (some (vi (asplit q L x key).1), M') ∧ RepE T0 X n (asplit q L x key).2.1 (asplit q L x key).2.2 M' ow' ∧ stp ext 14 245 ow M ow' M' := by
  have HE := H
  obtain ⟨ad, fh, fp, cl, ll, dl, aa, pk, H⟩ := H
  have hX := (ho_c H.2.1).1
  rw [bq_73_0, hX, cond_true, c_pageOf H.2.1, pg_of H K]
  unfold asplit
  cases hx : grng q x with
  | none =>
    obtain ⟨M', e, h, s⟩ := P_ref (MI := MI) (i := 1) (x := Int32.ofInt (-1)) HE B (by decide) rfl
    refine ⟨M', ow, ?_, h, s⟩
    simp (decide := true) (disch := omega) only [Option.bind_some, xasI, xasL, xasR, xin_t, cond_true, cond_false, nI_clamp, k_0, k_1, k_2, k_3, k_4, k_5, k_6, k_40, k_60, k_500, k_10000, pk_mul, nI_add, nI_e0, nI_ee, nI_leI, nI_ltI, xbool0, xbool1, xbn0, xbn1, xb_0, xb_1, reduceIte, one0, Option.isNone_none, ne_eq, not_true_eq_false, not_false_eq_true, if_true, if_false, ite_not, Bool.true_and, Bool.and_true, bq_73_5, bq_73_10, hX, e, bq_73_15]
  | some r =>
    obtain ⟨hr, rfl, h2, hrn, a, ha, hp⟩ := pg_some H K hx
    have h6 := K.2.2.2.2.2.1 r hr
    have h66 : nu q 6 r < 6 := by have := h6.2; omega
    have fr := x_isFree (T0 := T0) (MI := MI) (o2 := none) (o3 := none) H.2.1 H.2.2.1 hp hr h6
    obtain ⟨-, s, gi, ta, uw, pg, sp, u1, u2, -⟩ := hp
    have p1 := pg.1
    obtain ⟨-, g0, g1, g2, g3, g4⟩ := sp_g sp
    rw [h6.1] at g4
    simp (decide := true) (disch := omega) only [Option.bind_some, xasI, xasL, xasR, xin_t, cond_true, cond_false, nI_clamp, k_0, k_1, k_2, k_3, k_4, k_5, k_6, k_40, k_60, k_500, k_10000, pk_mul, nI_add, nI_e0, nI_ee, nI_leI, nI_ltI, xbool0, xbool1, xbn0, xbn1, xb_0, xb_1, reduceIte, one0, Option.isNone_none, ne_eq, not_true_eq_false, not_false_eq_true, if_true, if_false, ite_not, Bool.true_and, Bool.and_true, ha, Option.isNone_some, bq_73_5, bq_73_16, gR p1 0 rfl, g1]
    by_cases hk : key ≤ q.1 3 r ∨ q.1 4 r ≤ key
    · obtain ⟨M', e, h, s⟩ := P_ref (MI := MI) (i := 3) (x := Int32.ofInt (-3)) HE B (by decide) rfl
      rw [if_pos hk]
      refine ⟨M', ow, ?_, h, s⟩
      by_cases hk1 : key ≤ q.1 3 r
      · rw [if_pos hk1]
        simp (decide := true) (disch := omega) only [Option.bind_some, xasI, xasL, xasR, xin_t, cond_true, cond_false, nI_clamp, k_0, k_1, k_2, k_3, k_4, k_5, k_6, k_40, k_60, k_500, k_10000, pk_mul, nI_add, nI_e0, nI_ee, nI_leI, nI_ltI, xbool0, xbool1, xbn0, xbn1, xb_0, xb_1, reduceIte, one0, Option.isNone_none, ne_eq, not_true_eq_false, not_false_eq_true, if_true, if_false, ite_not, Bool.true_and, Bool.and_true, bq_73_40, hX, e, bq_73_46]
      · rw [if_neg hk1, bq_73_31, Option.bind_some, g2, Option.bind_some, if_neg (Int32.not_lt.mpr (hk.resolve_left hk1))]
        simp (decide := true) (disch := omega) only [Option.bind_some, xasI, xasL, xasR, xin_t, cond_true, cond_false, nI_clamp, k_0, k_1, k_2, k_3, k_4, k_5, k_6, k_40, k_60, k_500, k_10000, pk_mul, nI_add, nI_e0, nI_ee, nI_leI, nI_ltI, xbool0, xbool1, xbn0, xbn1, xb_0, xb_1, reduceIte, one0, Option.isNone_none, ne_eq, not_true_eq_false, not_false_eq_true, if_true, if_false, ite_not, Bool.true_and, Bool.and_true, bq_73_40, hX, e, bq_73_46]
    · rw [if_neg hk, if_neg (fun h => hk (Or.inl h)), bq_73_31, Option.bind_some, g2, Option.bind_some, if_pos (Int32.not_le.mp (fun h => hk (Or.inr h)))]
      have iu := c_isUp (T0 := T0) (MI := MI) (h := 0) (o2 := none) H.2.1 H.2.2.1 (by decide)
      have iu2 := c_isUp (T0 := T0) (MI := MI) (h := nu q 6 r) (o2 := none) H.2.1 H.2.2.1 h66
      simp (decide := true) (disch := omega) only [Option.bind_some, xasI, xasL, xasR, xin_t, cond_true, cond_false, nI_clamp, k_0, k_1, k_2, k_3, k_4, k_5, k_6, k_40, k_60, k_500, k_10000, pk_mul, nI_add, nI_e0, nI_ee, nI_leI, nI_ltI, xbool0, xbool1, xbn0, xbn1, xb_0, xb_1, reduceIte, one0, Option.isNone_none, ne_eq, not_true_eq_false, not_false_eq_true, if_true, if_false, ite_not, Bool.true_and, Bool.and_true, bq_73_47, hX, iu]
      by_cases hu : q.1 0 0 = 0 ∨ q.1 0 (nu q 6 r) = 0
      · obtain ⟨M', e, h, s⟩ := P_ref (MI := MI) (i := 4) (x := Int32.ofInt (-4)) HE B (by decide) rfl
        rw [if_pos hu]
        refine ⟨M', ow, ?_, h, s⟩
        by_cases hu0 : q.1 0 0 = 0
        · rw [tI_f (fun h => h hu0)]
          simp (decide := true) (disch := omega) only [Option.bind_some, xasI, xasL, xasR, xin_t, cond_true, cond_false, nI_clamp, k_0, k_1, k_2, k_3, k_4, k_5, k_6, k_40, k_60, k_500, k_10000, pk_mul, nI_add, nI_e0, nI_ee, nI_leI, nI_ltI, xbool0, xbool1, xbn0, xbn1, xb_0, xb_1, reduceIte, one0, Option.isNone_none, ne_eq, not_true_eq_false, not_false_eq_true, if_true, if_false, ite_not, Bool.true_and, Bool.and_true, bq_73_52, bq_73_67, hX, e, bq_73_73]
        · rw [tI_t hu0]
          simp (decide := true) (disch := omega) only [Option.bind_some, xasI, xasL, xasR, xin_t, cond_true, cond_false, nI_clamp, k_0, k_1, k_2, k_3, k_4, k_5, k_6, k_40, k_60, k_500, k_10000, pk_mul, nI_add, nI_e0, nI_ee, nI_leI, nI_ltI, xbool0, xbool1, xbn0, xbn1, xb_0, xb_1, reduceIte, one0, Option.isNone_none, ne_eq, not_true_eq_false, not_false_eq_true, if_true, if_false, ite_not, Bool.true_and, Bool.and_true, bq_73_52, bq_73_55, g4, hX, iu2]
          rw [tI_f (fun h => h (hu.resolve_left hu0))]
          simp (decide := true) (disch := omega) only [Option.bind_some, xasI, xasL, xasR, xin_t, cond_true, cond_false, nI_clamp, k_0, k_1, k_2, k_3, k_4, k_5, k_6, k_40, k_60, k_500, k_10000, pk_mul, nI_add, nI_e0, nI_ee, nI_leI, nI_ltI, xbool0, xbool1, xbn0, xbn1, xb_0, xb_1, reduceIte, one0, Option.isNone_none, ne_eq, not_true_eq_false, not_false_eq_true, if_true, if_false, ite_not, Bool.true_and, Bool.and_true, bq_73_64, bq_73_67, hX, e, bq_73_73]
      · rw [if_neg hu, tI_t (fun h => hu (Or.inl h))]
        simp (decide := true) (disch := omega) only [Option.bind_some, xasI, xasL, xasR, xin_t, cond_true, cond_false, nI_clamp, k_0, k_1, k_2, k_3, k_4, k_5, k_6, k_40, k_60, k_500, k_10000, pk_mul, nI_add, nI_e0, nI_ee, nI_leI, nI_ltI, xbool0, xbool1, xbn0, xbn1, xb_0, xb_1, reduceIte, one0, Option.isNone_none, ne_eq, not_true_eq_false, not_false_eq_true, if_true, if_false, ite_not, Bool.true_and, Bool.and_true, bq_73_52, bq_73_55, g4, hX, iu2]
        rw [tI_t (fun h => hu (Or.inr h))]
        simp (decide := true) (disch := omega) only [Option.bind_some, xasI, xasL, xasR, xin_t, cond_true, cond_false, nI_clamp, k_0, k_1, k_2, k_3, k_4, k_5, k_6, k_40, k_60, k_500, k_10000, pk_mul, nI_add, nI_e0, nI_ee, nI_leI, nI_ltI, xbool0, xbool1, xbn0, xbn1, xb_0, xb_1, reduceIte, one0, Option.isNone_none, ne_eq, not_true_eq_false, not_false_eq_true, if_true, if_false, ite_not, Bool.true_and, Bool.and_true, bq_73_64, bq_73_74, hX, fr]
        by_cases hf : gfree q r (nu q 6 r)
        · have mk := (ho_c H.2.1).2.2.2.2.2.2.2.1
          rw [B.2.2.2.1.1] at mk
          have b12 := B.2.2.2.1.2
          rw [tI_t hf, if_neg one0]
          simp (decide := true) (disch := omega) only [Option.bind_some, xasI, xasL, xasR, xin_t, cond_true, cond_false, nI_clamp, k_0, k_1, k_2, k_3, k_4, k_5, k_6, k_40, k_60, k_500, k_10000, pk_mul, nI_add, nI_e0, nI_ee, nI_leI, nI_ltI, xbool0, xbool1, xbn0, xbn1, xb_0, xb_1, reduceIte, one0, Option.isNone_none, ne_eq, not_true_eq_false, not_false_eq_true, if_true, if_false, ite_not, Bool.true_and, Bool.and_true, bq_73_79, bq_73_89, mk]
          by_cases h40 : nu q 12 0 = 40
          · obtain ⟨M', e, h, s⟩ := P_ref (MI := MI) (i := 6) (x := Int32.ofInt (-6)) HE B (by decide) rfl
            rw [if_pos h40, if_neg (by omega)]
            refine ⟨M', ow, ?_, h, s⟩
            simp (decide := true) (disch := omega) only [Option.bind_some, xasI, xasL, xasR, xin_t, cond_true, cond_false, nI_clamp, k_0, k_1, k_2, k_3, k_4, k_5, k_6, k_40, k_60, k_500, k_10000, pk_mul, nI_add, nI_e0, nI_ee, nI_leI, nI_ltI, xbool0, xbool1, xbn0, xbn1, xb_0, xb_1, reduceIte, one0, Option.isNone_none, ne_eq, not_true_eq_false, not_false_eq_true, if_true, if_false, ite_not, Bool.true_and, Bool.and_true, bq_73_98, hX, e, bq_73_104]
          · rw [if_neg h40, if_pos (by omega)]
            exact R_split H B K hP hrn (by omega) ha (gR p1 0 rfl) hf
        · obtain ⟨M', e, h, s⟩ := P_ref (MI := MI) (i := 5) (x := Int32.ofInt (-5)) HE B (by decide) rfl
          rw [tI_f hf, if_pos rfl]
          refine ⟨M', ow, ?_, h, s⟩
          simp (decide := true) (disch := omega) only [Option.bind_some, xasI, xasL, xasR, xin_t, cond_true, cond_false, nI_clamp, k_0, k_1, k_2, k_3, k_4, k_5, k_6, k_40, k_60, k_500, k_10000, pk_mul, nI_add, nI_e0, nI_ee, nI_leI, nI_ltI, xbool0, xbool1, xbn0, xbn1, xb_0, xb_1, reduceIte, one0, Option.isNone_none, ne_eq, not_true_eq_false, not_false_eq_true, if_true, if_false, ite_not, Bool.true_and, Bool.and_true, bq_73_79, bq_73_82, hX, e, bq_73_88]
