/-! at, status -/
theorem oS_sz {M : xM} {ow : xOw} {g a : Nat} {s : List Int32} (h : oKeys M ow g a s) : xgetI M a 5 0 = some (nI s.length) := by
  obtain ⟨ka, N, f, h1, -⟩ := oS_at h
  exact gI h1 0 rfl
theorem P_at {T0 MI X n : Nat} {q : xrho} {L : xLs} {M : xM} {ow : xOw} {x y what : Int32} {o4 o5 o6 o7 : Option xV} (H : RepE T0 X n q L M ow) (B : bds q) : xZ T0 MI 79 0 [some (vr (some X)), some (vi x), some (vi y), some (vi what), o4, o5, o6, o7] [] M = some (some (vi (gat q L x y what)), M) := by
  obtain ⟨ad, fh, fp, cl, ll, dl, aa, pk, H⟩ := H
  have b12 := B.2.2.2.1
  have mk := (ho_c H.2.1).2.2.2.2.2.2.2.1
  rw [bq_79_0, (ho_c H.2.1).1, cond_true, c_hostOf H.2.1]
  unfold gat
  cases hx : ix x 6 with
  | none =>
    simp (decide := true) (disch := omega) only [Option.bind_some, xasI, xasL, xasR, xin_t, cond_true, cond_false, nI_clamp, k_0, k_1, k_2, k_3, k_4, k_5, k_6, k_40, k_60, k_500, k_10000, pk_mul, nI_add, nI_e0, nI_ee, nI_leI, nI_ltI, xbool0, xbool1, xbn0, xbn1, xb_0, xb_1, reduceIte, one0, Option.isNone_none, ne_eq, not_true_eq_false, not_false_eq_true, if_true, if_false, ite_not, Bool.true_and, Bool.and_true, Option.bind_none, Option.isNone_none, bq_79_5, bq_79_24]
    rfl
  | some h =>
    obtain ⟨hh, rfl, -⟩ := ix_some (by decide) hx
    obtain ⟨a, f, h1, ⟨ar, gv, gs, oh, -⟩, h6⟩ := H.2.2.1 h hh
    simp (decide := true) (disch := omega) only [Option.bind_some, xasI, xasL, xasR, xin_t, cond_true, cond_false, nI_clamp, k_0, k_1, k_2, k_3, k_4, k_5, k_6, k_40, k_60, k_500, k_10000, pk_mul, nI_add, nI_e0, nI_ee, nI_leI, nI_ltI, xbool0, xbool1, xbn0, xbn1, xb_0, xb_1, reduceIte, one0, Option.isNone_none, ne_eq, not_true_eq_false, not_false_eq_true, if_true, if_false, ite_not, Bool.true_and, Bool.and_true, h1, Option.isNone_some, bq_79_5]
    rw [bq_79_12]
    rcases pk_ix y (n := nu q 12 0) (by have := b12.2; omega) with e | e | ⟨r, hr, rfl⟩
    · rw [if_pos e, bq_79_24, ix_lo e]
      rfl
    · rw [if_neg (nlt_ge (by have := b12.2; omega) e), bq_79_16, mk, Option.bind_some, b12.1, if_neg (Int32.not_lt.mpr e), bq_79_24, ix_hi e]
      rfl
    · have hr40 : r < 40 := by have := b12.2; omega
      have hf := h6 r hr40
      have lk := c_look (T0 := T0) (MI := MI) (x := nI r) oh
      rw [ix_i hr40 (by decide), Option.bind_some] at lk
      rw [if_neg (nlt0 (by omega)), bq_79_16, mk, Option.bind_some, b12.1, if_pos ((nI_ltI (by omega) (by have := b12.2; omega)).mpr hr), bq_79_27, Option.bind_some, gC oh.1, cond_true, lk, ix_i hr (by have := b12.2; omega)]
      dsimp only
      simp (decide := true) (disch := omega) only [Option.bind_some, xasI, xasL, xasR, xin_t, cond_true, cond_false, nI_clamp, k_0, k_1, k_2, k_3, k_4, k_5, k_6, k_40, k_60, k_500, k_10000, pk_mul, nI_add, nI_e0, nI_ee, nI_leI, nI_ltI, xbool0, xbool1, xbn0, xbn1, xb_0, xb_1, reduceIte, one0, Option.isNone_none, ne_eq, not_true_eq_false, not_false_eq_true, if_true, if_false, ite_not, Bool.true_and, Bool.and_true]
      cases hfr : f r with
      | none =>
        rw [hfr] at hf
        have h0 : q.1 15 (40 * h + r) = 0 := hf.1
        simp (decide := true) (disch := omega) only [Option.bind_some, xasI, xasL, xasR, xin_t, cond_true, cond_false, nI_clamp, k_0, k_1, k_2, k_3, k_4, k_5, k_6, k_40, k_60, k_500, k_10000, pk_mul, nI_add, nI_e0, nI_ee, nI_leI, nI_ltI, xbool0, xbool1, xbn0, xbn1, xb_0, xb_1, reduceIte, one0, Option.isNone_none, ne_eq, not_true_eq_false, not_false_eq_true, if_true, if_false, ite_not, Bool.true_and, Bool.and_true, Option.isNone_none, bq_79_33, bq_79_40, bq_79_49]
        by_cases hw : what = 0
        · rw [if_pos hw, if_pos hw, bq_79_55, h0]
          rfl
        · rw [if_neg hw, if_neg hw, if_pos h0, bq_79_58, Option.isNone_none, cond_true, bq_79_68]
          rfl
      | some b =>
        rw [hfr] at hf
        have st := (hd_st hf).1
        obtain ⟨ra, ka, sa, hhh, sn, R, K, S, hA, ti⟩ := hf
        have t0 := ti.1.1
        simp (decide := true) (disch := omega) only [Option.bind_some, xasI, xasL, xasR, xin_t, cond_true, cond_false, nI_clamp, k_0, k_1, k_2, k_3, k_4, k_5, k_6, k_40, k_60, k_500, k_10000, pk_mul, nI_add, nI_e0, nI_ee, nI_leI, nI_ltI, xbool0, xbool1, xbn0, xbn1, xb_0, xb_1, reduceIte, one0, Option.isNone_none, ne_eq, not_true_eq_false, not_false_eq_true, if_true, if_false, ite_not, Bool.true_and, Bool.and_true, Option.isNone_some, bq_79_33, bq_79_44, st, bq_79_49]
        by_cases hw : what = 0
        · rw [if_pos hw, if_pos hw, bq_79_55]
        · rw [if_neg hw, if_neg hw, bq_79_58, Option.isNone_some, cond_false, bq_79_63]
          by_cases h0 : q.1 15 (40 * h + r) = 0
          · rw [if_pos h0, if_pos h0, bq_79_68]
            rfl
          · rw [if_neg h0, if_neg h0]
            obtain ⟨⟨t1, t2, t3⟩, tR, tK⟩ := ti.2.2.1 h0
            -- the flag of moving
            have mv : xZ T0 MI 79 71 [some (vr (some X)), some (vi (nI h)), some (vi (nI r)), some (vi what), xinv (some (vr (some a))), some (vr (some b)), some (vi (q.1 15 (40 * h + r))), o7] [] M = xZ T0 MI 79 90 [some (vr (some X)), some (vi (nI h)), some (vi (nI r)), some (vi what), xinv (some (vr (some a))), some (vr (some b)), some (vi (q.1 15 (40 * h + r))), o7] [vi (tI (mvs q (40 * h + r)))] M := by
              rw [bq_79_71, Option.bind_some, hA_c hA, cond_true, c_isGiven st]
              simp (decide := true) (disch := omega) only [Option.bind_some, xasI, xasL, xasR, xin_t, cond_true, cond_false, nI_clamp, k_0, k_1, k_2, k_3, k_4, k_5, k_6, k_40, k_60, k_500, k_10000, pk_mul, nI_add, nI_e0, nI_ee, nI_leI, nI_ltI, xbool0, xbool1, xbn0, xbn1, xb_0, xb_1, reduceIte, one0, Option.isNone_none, ne_eq, not_true_eq_false, not_false_eq_true, if_true, if_false, ite_not, Bool.true_and, Bool.and_true]
              rw [bq_79_76]
              by_cases g : q.1 15 (40 * h + r) = nI 2 ∨ q.1 15 (40 * h + r) = nI 3
              · rw [tI_t g, if_neg one0, bq_79_85, tI_t (show mvs q (40 * h + r) from g.elim Or.inl (fun e => Or.inr (Or.inl e)))]
                rfl
              · rw [tI_f g, if_pos rfl, bq_79_79, k_4]
                by_cases g4 : q.1 15 (40 * h + r) = nI 4
                · rw [if_pos g4, bq_79_85, tI_t (show mvs q (40 * h + r) from Or.inr (Or.inr g4))]
                  rfl
                · rw [if_neg g4, bq_79_89, tI_f (show ¬ mvs q (40 * h + r) from fun e => e.elim (fun e => g (Or.inl e)) (fun e => e.elim (fun e => g (Or.inr e)) g4))]
                  rfl
            rw [mv, bq_79_90]
            rcases sw_cases what 8 (by decide) with ⟨h1, h2⟩ | ⟨k, hk, rfl⟩
            · rw [if_pos (show what.toInt < 1 ∨ (8 : Int) < what.toInt by omega), gsw_out (n := 8) (by simp) h2, bq_79_228]
              rfl
            · have hk0 : k ≠ 0 := fun e => hw (by rw [e]; rfl)
              rw [if_neg (by rw [nI_toInt (by omega)]; omega), nI_toInt (by omega)]
              have hg := gsw_in (d := n9) (r := [n9, q.1 18 (40 * h + r), nI (L.1 (40 * h + r)).length, q.1 16 (40 * h + r), q.1 17 (40 * h + r), if mvs q (40 * h + r) then q.1 22 (40 * h + r) else n9, if mvs q (40 * h + r) then q.1 23 (40 * h + r) else n9, if q.1 15 (40 * h + r) = nI 2 then nI (L.2.1 (40 * h + r)).length else n9, nI (kts L.2.2.1 (40 * h + r))]) (k := 0) (j := k) (by simp) (by simp; omega)
              rw [Nat.zero_add] at hg
              rw [hg]
              match k, hk, hk0 with
              | 1, _, _ => show xZ T0 MI 79 140 _ _ _ = some (some (vi (q.1 18 (40 * h + r))), M); rw [bq_79_140, Option.bind_some, hA_g hA 3 (by decide), t3]; rfl
              | 2, _, _ => show xZ T0 MI 79 146 _ _ _ = some (some (vi (nI (L.1 (40 * h + r)).length)), M); rw [bq_79_146, Option.bind_some, hA_4 hA, Option.bind_some, Option.bind_some, oR_sz hA.2.2.2.1, tR]; rfl
              | 3, _, _ => show xZ T0 MI 79 155 _ _ _ = some (some (vi (q.1 16 (40 * h + r))), M); rw [bq_79_155, Option.bind_some, hA_g hA 1 (by decide), t1]; rfl
              | 4, _, _ => show xZ T0 MI 79 161 _ _ _ = some (some (vi (q.1 17 (40 * h + r))), M); rw [bq_79_161, Option.bind_some, hA_g hA 2 (by decide), t2]; rfl
              | 5, _, _ =>
                show xZ T0 MI 79 167 _ _ _ = some (some (vi (if mvs q (40 * h + r) then q.1 22 (40 * h + r) else n9)), M)
                by_cases g : mvs q (40 * h + r)
                · rw [tI_t g, bq_79_167, if_neg one0, if_pos g, bq_79_172, Option.bind_some, hA_g hA 9 (by decide), Option.bind_some, bq_79_182, (ti.2.2.2.1 g).1]
                · rw [tI_f g, bq_79_167, if_pos rfl, if_neg g, bq_79_180, bq_79_182]; rfl
              | 6, _, _ =>
                show xZ T0 MI 79 183 _ _ _ = some (some (vi (if mvs q (40 * h + r) then q.1 23 (40 * h + r) else n9)), M)
                by_cases g : mvs q (40 * h + r)
                · rw [tI_t g, bq_79_183, if_neg one0, if_pos g, bq_79_188, Option.bind_some, hA_g hA 10 (by decide), Option.bind_some, bq_79_198, (ti.2.2.2.1 g).2]
                · rw [tI_f g, bq_79_183, if_pos rfl, if_neg g, bq_79_196, bq_79_198]; rfl
              | 7, _, _ =>
                show xZ T0 MI 79 199 _ _ _ = some (some (vi (if q.1 15 (40 * h + r) = nI 2 then nI (L.2.1 (40 * h + r)).length else n9)), M)
                rw [bq_79_199, k_2]
                by_cases g : q.1 15 (40 * h + r) = nI 2
                · rw [if_pos g, if_pos g, bq_79_205, Option.bind_some, hA_13 hA, Option.bind_some, Option.bind_some, oS_sz hA.2.2.2.2.2, Option.bind_some, bq_79_218, ti.2.2.2.2.2 g]
                · rw [if_neg g, if_neg g, bq_79_216, bq_79_218]; rfl
              | 8, _, _ =>
                show xZ T0 MI 79 219 _ _ _ = some (some (vi (nI (kts L.2.2.1 (40 * h + r)))), M)
                rw [bq_79_219, Option.bind_some, hA_5 hA, Option.bind_some, Option.bind_some, oK_cls hA.2.2.2.2.1, cond_true, oK_total hA.2.2.2.2.1]
                simp (decide := true) (disch := omega) only [Option.bind_some, xasI, xasL, xasR, xin_t, cond_true, cond_false, nI_clamp, k_0, k_1, k_2, k_3, k_4, k_5, k_6, k_40, k_60, k_500, k_10000, pk_mul, nI_add, nI_e0, nI_ee, nI_leI, nI_ltI, xbool0, xbool1, xbn0, xbn1, xb_0, xb_1, reduceIte, one0, Option.isNone_none, ne_eq, not_true_eq_false, not_false_eq_true, if_true, if_false, ite_not, Bool.true_and, Bool.and_true]
                rw [bq_79_227]
                unfold kts
                have k0 := tK 0 (by decide)
                rw [Nat.add_zero] at k0
                rw [← k0, ← tK 1 (by decide), ← tK 2 (by decide), ← tK 3 (by decide), ← tK 4 (by decide), ← tK 5 (by decide)]
theorem c_cntP {T0 MI X n : Nat} {ad : Nat → Nat} {fh fp : Nat → Option Nat} {cl ll dl : List Nat} {aa : Nat → Nat} {pk : Nat → Option Nat} {q : xrho} {L : xLs} {M : xM} {ow : xOw} (H : Rep T0 X n ad fh fp cl ll dl aa pk q L M ow) (h12 : isN q 12 0 40) : ∀ m r, r + m = nu q 12 0 → ∀ acc, acc ≤ r → xZ T0 MI 97 4 [some (vr (some X)), some (vi (nI acc)), some (vi (nI r))] [] M = some (some (vi (nI (acc + gthere q r m))), M) := by
  have mk := (ho_c H.2.1).2.2.2.2.2.2.2.1
  have pa := (ho_c H.2.1).2.2.1
  have b := h12.2
  intro m
  induction m with
  | zero =>
    intro r hr acc ha
    rw [bq_97_4, mk, Option.bind_some, h12.1, if_pos (by rw [nI_leI (by omega) (by omega)]; omega), bq_97_30]
    rfl
  | succ m ih =>
    intro r hr acc ha
    rw [bq_97_4, mk, Option.bind_some, h12.1, if_neg (by rw [nI_leI (by omega) (by omega)]; omega), bq_97_12, pa, Option.bind_some, Option.bind_some, ho_p H.2.1 (show r < 40 by omega), Option.bind_some]
    have hp := H.2.2.2.1 r (by omega)
    show _ = some (some (vi (nI (acc + ((if q.1 2 r = 0 then 0 else 1) + gthere q (r + 1) m)))), M)
    cases hf : fp r with
    | none =>
      rw [hf] at hp
      rw [Option.isNone_none, cond_true, bq_97_24, nI_s, ih (r + 1) (by omega) acc (by omega), if_pos (show q.1 2 r = 0 from hp), Nat.zero_add]
    | some a =>
      rw [hf] at hp
      rw [Option.isNone_some, cond_false, bq_97_21, bq_97_24, nI_s, nI_s, ih (r + 1) (by omega) (acc + 1) (by omega), if_neg (bk0 hp.1), Nat.add_assoc]
theorem c_cntU {T0 MI X n : Nat} {ad : Nat → Nat} {fh fp : Nat → Option Nat} {cl ll dl : List Nat} {aa : Nat → Nat} {pk : Nat → Option Nat} {q : xrho} {L : xLs} {M : xM} {ow : xOw} (H : Rep T0 X n ad fh fp cl ll dl aa pk q L M ow) : ∀ m r, r + m = 6 → ∀ acc, acc ≤ r → xZ T0 MI 98 4 [some (vr (some X)), some (vi (nI acc)), some (vi (nI r))] [] M = some (some (vi (nI (acc + gups q r m))), M) := by
  have pa := (ho_c H.2.1).2.1
  intro m
  induction m with
  | zero =>
    intro r hr acc ha
    rw [bq_98_4, k_6, if_pos (by rw [nI_leI (by omega) (by omega)]; omega), bq_98_31]
    rfl
  | succ m ih =>
    intro r hr acc ha
    obtain ⟨a, h1, h2, -⟩ := ft_up H.2.2.1 (show r < 6 by omega)
    rw [bq_98_4, k_6, if_neg (by rw [nI_leI (by omega) (by omega)]; omega), bq_98_10, pa, Option.bind_some, Option.bind_some, ho_h H.2.1 (show r < 6 by omega), Option.bind_some, h1, Option.bind_some, h2, Option.bind_some]
    show _ = some (some (vi (nI (acc + ((if q.1 0 r = 0 then 0 else 1) + gups q (r + 1) m)))), M)
    by_cases hu : q.1 0 r = 0
    · rw [if_pos hu, if_pos hu, bq_98_25, nI_s, ih (r + 1) (by omega) acc (by omega), Nat.zero_add]
    · rw [if_neg hu, if_neg hu, bq_98_22, bq_98_25, nI_s, nI_s, ih (r + 1) (by omega) (acc + 1) (by omega), Nat.add_assoc]
theorem P_status {T0 MI X n : Nat} {q : xrho} {L : xLs} {M : xM} {ow : xOw} {x : Int32} (H : RepE T0 X n q L M ow) (B : bds q) : xZ T0 MI 87 0 [some (vr (some X)), some (vi x)] [] M = some (some (vi (gstat q x)), M) := by
  obtain ⟨ad, fh, fp, cl, ll, dl, aa, pk, H⟩ := H
  obtain ⟨hX, a0, a1, a2, a3, a4, a5, a6, a7, a8⟩ := ho_c H.2.1
  obtain ⟨g, ho, hg⟩ := H.2.1
  have l2 : oList T0 M ow 1 3 (ad 2) cl := ho.2.2.2.2.2.2.1
  have l3 : oList T0 M ow 1 5 (ad 3) ll := ho.2.2.2.2.2.2.2.1
  have l4 : oList T0 M ow 1 7 (ad 4) dl := ho.2.2.2.2.2.2.2.2
  unfold gstat
  rcases sw_cases x 16 (by decide) with ⟨h1, h2⟩ | ⟨k, hk, rfl⟩
  · have hx : ix x 17 = none := by
      cases hz : ix x 17 with
      | none => rfl
      | some j =>
        obtain ⟨hj, rfl, -⟩ := ix_some (by decide) hz
        rw [nI_toInt (by omega)] at h1
        omega
    rw [hx]
    dsimp only
    have st : xZ T0 MI 87 0 [some (vr (some X)), some (vi x)] [] M = xZ T0 MI 87 22 [some (vr (some X)), some (vi x)] [] M := by
      rw [bq_87_0]
      by_cases c : x < Int32.ofInt 11
      · rw [if_pos c]
      · rw [if_neg c, bq_87_6, if_pos]
        rw [Int32.lt_iff_toInt_lt] at c ⊢
        rw [show (Int32.ofInt 11).toInt = 11 from rfl] at c
        rw [show (Int32.ofInt 16).toInt = 16 from rfl]
        omega
    rw [st, bq_87_22, if_pos (by omega), bq_87_117]
    rfl
  · rw [ix_i (show k < 17 by omega) (by decide)]
    dsimp only
    by_cases h10 : 10 < k
    · rw [if_pos h10, bq_87_0, show Int32.ofInt 11 = nI 11 from rfl, if_neg (by rw [nI_ltI (by omega) (by omega)]; omega), bq_87_6, show Int32.ofInt 16 = nI 16 from rfl, if_neg (by rw [nI_ltI (by omega) (by omega)]; omega), bq_87_12, a5, Option.bind_some, Option.bind_some, show nI k - Int32.ofInt 10 = nI (k - 10) by
        have : k = 11 ∨ k = 12 ∨ k = 13 ∨ k = 14 ∨ k = 15 ∨ k = 16 := by omega
        rcases this with rfl | rfl | rfl | rfl | rfl | rfl <;> decide]
      rw [aI ho.2.2.2.1, xin_t (by omega) (by decide), cond_true, Option.bind_some, nI_clamp (by omega), hg _ (by omega)]
    · rw [if_neg h10, bq_87_0, show Int32.ofInt 11 = nI 11 from rfl, if_pos (by rw [nI_ltI (by omega) (by omega)]; omega), bq_87_22, nI_toInt (by omega)]
      by_cases h7 : 7 < k
      · rw [if_pos (by omega), bq_87_117]
        have : k = 8 ∨ k = 9 ∨ k = 10 := by omega
        rcases this with rfl | rfl | rfl <;> rfl
      · rw [if_neg (by omega)]
        have hg := gsw_in (d := n9) (r := [nI (gthere q 0 (nu q 12 0)), q.1 12 0, q.1 45 0, q.1 82 0, q.1 88 0, nI (gups q 0 6), q.1 13 0, q.1 14 0]) (k := 0) (j := k) (by simp) (by simp; omega)
        rw [Nat.zero_add] at hg
        rw [hg]
        have h7' : k ≤ 7 := by omega
        clear hg h7 h10 hk
        match k, h7' with
        | 0, _ =>
          show xZ T0 MI 87 68 _ _ _ = some (some (vi (nI (gthere q 0 (nu q 12 0)))), M)
          have e := c_cntP (T0 := T0) (MI := MI) H B.2.2.2.1 (nu q 12 0) 0 (by omega) 0 (Nat.le_refl _)
          rw [Nat.zero_add] at e
          rw [bq_87_68, hX, cond_true, bq_97_0, k_0, e]
          simp (decide := true) (disch := omega) only [Option.bind_some, xasI, xasL, xasR, xin_t, cond_true, cond_false, nI_clamp, k_0, k_1, k_2, k_3, k_4, k_5, k_6, k_40, k_60, k_500, k_10000, pk_mul, nI_add, nI_e0, nI_ee, nI_leI, nI_ltI, xbool0, xbool1, xbn0, xbn1, xb_0, xb_1, reduceIte, one0, Option.isNone_none, ne_eq, not_true_eq_false, not_false_eq_true, if_true, if_false, ite_not, Bool.true_and, Bool.and_true]
          rw [bq_87_72]
        | 1, _ => show xZ T0 MI 87 73 _ _ _ = some (some (vi (q.1 12 0)), M); rw [bq_87_73, a6]; rfl
        | 2, _ =>
          show xZ T0 MI 87 78 _ _ _ = some (some (vi (q.1 45 0)), M)
          rw [bq_87_78, a2, Option.bind_some, Option.bind_some, (oL_c l2).1, cond_true, oL_size l2]
          simp (decide := true) (disch := omega) only [Option.bind_some, xasI, xasL, xasR, xin_t, cond_true, cond_false, nI_clamp, k_0, k_1, k_2, k_3, k_4, k_5, k_6, k_40, k_60, k_500, k_10000, pk_mul, nI_add, nI_e0, nI_ee, nI_leI, nI_ltI, xbool0, xbool1, xbn0, xbn1, xb_0, xb_1, reduceIte, one0, Option.isNone_none, ne_eq, not_true_eq_false, not_false_eq_true, if_true, if_false, ite_not, Bool.true_and, Bool.and_true]
          rw [bq_87_85, H.2.2.2.2.1.1, ← B.1.1]
        | 3, _ =>
          show xZ T0 MI 87 86 _ _ _ = some (some (vi (q.1 82 0)), M)
          rw [bq_87_86, a3, Option.bind_some, Option.bind_some, (oL_c l3).1, cond_true, oL_size l3]
          simp (decide := true) (disch := omega) only [Option.bind_some, xasI, xasL, xasR, xin_t, cond_true, cond_false, nI_clamp, k_0, k_1, k_2, k_3, k_4, k_5, k_6, k_40, k_60, k_500, k_10000, pk_mul, nI_add, nI_e0, nI_ee, nI_leI, nI_ltI, xbool0, xbool1, xbn0, xbn1, xb_0, xb_1, reduceIte, one0, Option.isNone_none, ne_eq, not_true_eq_false, not_false_eq_true, if_true, if_false, ite_not, Bool.true_and, Bool.and_true]
          rw [bq_87_93, H.2.2.2.2.2.2.1.1, ← B.2.2.1.1]
        | 4, _ =>
          show xZ T0 MI 87 94 _ _ _ = some (some (vi (q.1 88 0)), M)
          rw [bq_87_94, a4, Option.bind_some, Option.bind_some, (oL_c l4).1, cond_true, oL_size l4]
          simp (decide := true) (disch := omega) only [Option.bind_some, xasI, xasL, xasR, xin_t, cond_true, cond_false, nI_clamp, k_0, k_1, k_2, k_3, k_4, k_5, k_6, k_40, k_60, k_500, k_10000, pk_mul, nI_add, nI_e0, nI_ee, nI_leI, nI_ltI, xbool0, xbool1, xbn0, xbn1, xb_0, xb_1, reduceIte, one0, Option.isNone_none, ne_eq, not_true_eq_false, not_false_eq_true, if_true, if_false, ite_not, Bool.true_and, Bool.and_true]
          rw [bq_87_101, H.2.2.2.2.2.2.2.1, ← B.2.2.2.2.2.1]
        | 5, _ =>
          show xZ T0 MI 87 102 _ _ _ = some (some (vi (nI (gups q 0 6))), M)
          have e := c_cntU (T0 := T0) (MI := MI) H 6 0 (by omega) 0 (Nat.le_refl _)
          rw [Nat.zero_add] at e
          rw [bq_87_102, hX, cond_true, bq_98_0, k_0, e]
          simp (decide := true) (disch := omega) only [Option.bind_some, xasI, xasL, xasR, xin_t, cond_true, cond_false, nI_clamp, k_0, k_1, k_2, k_3, k_4, k_5, k_6, k_40, k_60, k_500, k_10000, pk_mul, nI_add, nI_e0, nI_ee, nI_leI, nI_ltI, xbool0, xbool1, xbn0, xbn1, xb_0, xb_1, reduceIte, one0, Option.isNone_none, ne_eq, not_true_eq_false, not_false_eq_true, if_true, if_false, ite_not, Bool.true_and, Bool.and_true]
          rw [bq_87_106]
        | 6, _ => show xZ T0 MI 87 107 _ _ _ = some (some (vi (q.1 13 0)), M); rw [bq_87_107, a7]; rfl
        | 7, _ => show xZ T0 MI 87 112 _ _ _ = some (some (vi (q.1 14 0)), M); rw [bq_87_112, a8]; rfl
