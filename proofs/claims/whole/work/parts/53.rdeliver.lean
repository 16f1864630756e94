/-! THE REFERENCE'S deliver -/
noncomputable def adel1 (q : xrho) (L : xLs) (l : Nat) : xrho × xLs := match nu q 60 l with
  | 0 => acall q L l (nu q 61 l) (nu q 63 l)
  | 1 => (gheardA q l (60 * nu q 61 l + nu q 66 l), L)
  | 2 => (gold q l, L)
  | 3 => abeg q L l (40 * nu q 61 l + nu q 63 l)
  | 4 => aparted q L l (nu q 61 l) (nu q 63 l)
  | 5 => atook q L l (nu q 61 l) (nu q 63 l)
  | k => (gmvd q k (nu q 61 l) (nu q 63 l) (q.1 64 l), L)
noncomputable def adel (q : xrho) (L : xLs) (x : Int32) : Int32 × xrho × xLs := match ix x (nu q 82 0) with
  | none => (Int32.ofInt (-1), gref q 1, L)
  | some l => if q.1 75 l = 0 then
      if nu q 82 0 < 1199 then
        if (nu q 60 l = 1 ∨ nu q 60 l = 2) ∨ ¬ q.1 0 (nu q 61 l) = 0 then (nI 1, adel1 (rup q 65 l (q.1 65 l + nI 1)) L l)
        else (nI 0, rup q 65 l (q.1 65 l + nI 1), L)
      else (Int32.ofInt (-6), gref q 6, L)
    else (Int32.ofInt (-5), gref q 5, L)
/-- what deliver needs of a letter -/
def okD (q : xrho) (L : xLs) (l : Nat) : Prop := isN q 60 l 14 ∧ isN q 61 l 5 ∧ (nu q 60 l = 1 → isN q 66 l 59) ∧ (nu q 60 l = 2 → q.1 63 l ≠ Int32.ofInt (-9) → isN q 70 l 9999 ∧ isN q 71 l 10000 ∧ nu q 70 l < nu q 71 l ∧ isN q 58 (10000 * nu q 61 l + nu q 70 l) 10000 ∧ nu q 58 (10000 * nu q 61 l + nu q 70 l) ≤ nu q 70 l ∧ isN q 59 (10000 * nu q 61 l + (nu q 71 l - 1)) 10000 ∧ nu q 71 l ≤ nu q 59 (10000 * nu q 61 l + (nu q 71 l - 1))) ∧ (nu q 60 l ≠ 1 → nu q 60 l ≠ 2 → isN q 63 l 39) ∧ (nu q 60 l = 0 → isN q 62 l 5 ∧ isN q 66 l 59 ∧ isN q 47 (60 * nu q 62 l + nu q 66 l) 4 ∧ (addK (L.2.1 (40 * nu q 61 l + nu q 63 l)) (q.1 48 (60 * nu q 62 l + nu q 66 l))).length < 500) ∧ (nu q 60 l = 4 → q.1 69 l < 0 ∨ isN q 69 l 3)
theorem gheardA_LX {q : xrho} {L : xLs} {l c : Nat} (h : LX q L) : LX (gheardA q l c) L := by
  unfold gheardA
  split
  · exact LX_up rfl (LX_upL rfl (LX_up rfl h))
  · exact h
theorem fil1_LX {q : xrho} {L : xLs} {f a z : Nat} {v : Int32} (hf : nf1 f = false) (h : LX q L) : LX (fil1 f q a z v) L := LX_f h (fun k hk => va_up_ne _ _ (Ne.symm (nf_ne hf hk))) (fun _ _ => rfl)
theorem cps_LX {q : xrho} {L : xLs} {a z : Nat} {r e h lo hi : Int32} (h0 : LX q L) : LX (cps q a z r e h lo hi) L := by
  refine LX_f h0 (fun k hk => cps_ne q a z r e h lo hi ?_) (fun _ _ => rfl)
  rcases Nat.lt_or_ge k 55 with h | h
  · exact Or.inl h
  · rcases Nat.lt_or_ge k 60 with h2 | h2
    · have : k = 55 ∨ k = 56 ∨ k = 57 ∨ k = 58 ∨ k = 59 := by omega
      rcases this with rfl | rfl | rfl | rfl | rfl <;> cases hk
    · exact Or.inr h2
theorem gold_LX {q : xrho} {L : xLs} {l : Nat} (h : LX q L) : LX (gold q l) L := by
  unfold gold
  split
  · exact h
  · split
    · exact cps_LX (fil1_LX rfl (fil1_LX rfl h))
    · exact h
theorem gowedL_LX {q : xrho} {L : xLs} {r k l : Nat} (h : LX q L) : LX (gowedL q r k l) L := gnew_LX h
theorem gmvd_LX {q : xrho} {L : xLs} {k h r : Nat} {e : Int32} (h0 : LX q L) : LX (gmvd q k h r e) L := by
  have s1 : ∀ k, LX (gset1 q r k e) L := by
    intro k
    unfold gset1
    split
    · exact LX_up rfl h0
    · exact h0
  have o1 : LX (gopen q (40 * h + r) e) L := by
    unfold gopen
    split
    · exact LX_up rfl h0
    · exact h0
  have u1 : LX (gund q (40 * h + r) e) L := by
    unfold gund
    split
    · exact LX_up rfl (LX_up rfl h0)
    · exact h0
  unfold gmvd
  split
  · split
    · exact h0
    · exact gowedL_LX (gowedL_LX (LX_up rfl (LX_up rfl (LX_up rfl (LX_up rfl (LX_up rfl (LX_up rfl (LX_up rfl (LX_up rfl h0)))))))))
  · split
    · exact gnew_LX o1
    · exact o1
  · refine gnew_LX ?_
    split
    · exact LX_up rfl (LX_up rfl (LX_up rfl (LX_up rfl (LX_up rfl (LX_up rfl (LX_up rfl (LX_up rfl h0)))))))
    · exact h0
  · split
    · exact gnew_LX u1
    · exact u1
  · refine gnew_LX ?_
    split
    · exact LX_up rfl h0
    · exact h0
  · exact s1 _
  · exact s1 _
  · exact s1 _
  · exact s1 _
theorem k_1199 : Int32.ofInt 1199 = nI 1199 := rfl
theorem c_deliver {T0 MI B : Nat} {q : xrho} {L : xLs} {x : Int32} {M : xM} {o2 o3 o4 o5 : Option xV} (h0 : LX q L) (h12 : isN q 12 0 40) (h82 : isN q 82 0 1200) (h44 : isN q 44 0 1199) (h88 : isN q 88 0 3999) (hD : ∀ l, l < nu q 82 0 → okD q L l) : ∃ q', xZ T0 MI 174 0 [some (vr (some B)), some (vi x), o2, o3, o4, o5] [] (rput B q M) = some (some (vi (adel q L x).1), rput B q' M) ∧ fl2 (adel q L x).2.1 q' ∧ LX q' (adel q L x).2.2 := by
  have b82 := h82.2
  unfold adel
  rw [rq_174_0, h82.1]
  cases hx : ix x (nu q 82 0) with
  | none =>
    refine ⟨gref q 1, ?_, fl2_rf _, gref_LX h0⟩
    rw [c_isIn_n hx]
    simp (decide := true) (disch := omega) only [bq_174_8, rq_174_11, bq_174_16, Option.bind_some, xasI, xasL, xasR, xin_t, cond_true, cond_false, nI_clamp, k_0, k_1, k_2, k_3, k_4, k_5, k_6, k_40, k_60, k_500, k_10000, pk_mul, nI_add, nI_e0, nI_ee, nI_leI, nI_ltI, xbool0, xbool1, xbn0, xbn1, xb_0, xb_1, reduceIte, one0, Option.isNone_none, ne_eq, not_true_eq_false, not_false_eq_true, if_true, if_false, ite_not, Bool.true_and, Bool.and_true, c_refuse (k := 1) (by decide) neg1]
  | some l =>
    obtain ⟨hl, rfl, -⟩ := ix_some (by omega) hx
    obtain ⟨d60, d61, dA, dO, dH, dC, dP⟩ := hD l hl
    have b60 := d60.2
    have b61 := d61.2
    rw [c_isIn_s (by omega) hx]
    dsimp only
    by_cases a1 : q.1 75 l = 0
    case neg =>
      rw [if_neg a1]
      refine ⟨gref q 5, ?_, fl2_rf _, gref_LX h0⟩
      simp (decide := true) (disch := omega) only [bq_174_8, rq_174_17, Option.bind_some, xasI, xasL, xasR, xin_t, cond_true, cond_false, nI_clamp, k_0, k_1, k_2, k_3, k_4, k_5, k_6, k_40, k_60, k_500, k_10000, pk_mul, nI_add, nI_e0, nI_ee, nI_leI, nI_ltI, xbool0, xbool1, xbn0, xbn1, xb_0, xb_1, reduceIte, one0, Option.isNone_none, ne_eq, not_true_eq_false, not_false_eq_true, if_true, if_false, ite_not, Bool.true_and, Bool.and_true]
      rw [if_neg a1]
      simp (decide := true) (disch := omega) only [rq_174_26, bq_174_32, Option.bind_some, xasI, xasL, xasR, xin_t, cond_true, cond_false, nI_clamp, k_0, k_1, k_2, k_3, k_4, k_5, k_6, k_40, k_60, k_500, k_10000, pk_mul, nI_add, nI_e0, nI_ee, nI_leI, nI_ltI, xbool0, xbool1, xbn0, xbn1, xb_0, xb_1, reduceIte, one0, Option.isNone_none, ne_eq, not_true_eq_false, not_false_eq_true, if_true, if_false, ite_not, Bool.true_and, Bool.and_true, c_refuse (k := 5) (by decide) neg5]
    rw [if_pos a1]
    have st1 : xZ T0 MI 174 8 [some (vr (some B)), some (vi (nI l)), o2, o3, o4, o5] [vi 1] (rput B q M) = xZ T0 MI 174 50 [some (vr (some B)), some (vi (nI l)), o2, o3, o4, o5] [vi (if nu q 60 l = 1 ∨ nu q 60 l = 2 then nI 0 else nI 1)] (rput B q M) := by
      simp (decide := true) (disch := omega) only [bq_174_8, rq_174_17, Option.bind_some, xasI, xasL, xasR, xin_t, cond_true, cond_false, nI_clamp, k_0, k_1, k_2, k_3, k_4, k_5, k_6, k_40, k_60, k_500, k_10000, pk_mul, nI_add, nI_e0, nI_ee, nI_leI, nI_ltI, xbool0, xbool1, xbn0, xbn1, xb_0, xb_1, reduceIte, one0, Option.isNone_none, ne_eq, not_true_eq_false, not_false_eq_true, if_true, if_false, ite_not, Bool.true_and, Bool.and_true]
      rw [if_pos a1]
      simp (decide := true) (disch := omega) only [rq_174_33, Option.bind_some, xasI, xasL, xasR, xin_t, cond_true, cond_false, nI_clamp, k_0, k_1, k_2, k_3, k_4, k_5, k_6, k_40, k_60, k_500, k_10000, pk_mul, nI_add, nI_e0, nI_ee, nI_leI, nI_ltI, xbool0, xbool1, xbn0, xbn1, xb_0, xb_1, reduceIte, one0, Option.isNone_none, ne_eq, not_true_eq_false, not_false_eq_true, if_true, if_false, ite_not, Bool.true_and, Bool.and_true, d60.1]
      rw [c_isToCaller (by omega)]
      by_cases a2 : nu q 60 l = 1 ∨ nu q 60 l = 2
      · rw [if_pos a2, if_pos a2]
        simp (decide := true) (disch := omega) only [bq_174_42, bq_174_49, Option.bind_some, xasI, xasL, xasR, xin_t, cond_true, cond_false, nI_clamp, k_0, k_1, k_2, k_3, k_4, k_5, k_6, k_40, k_60, k_500, k_10000, pk_mul, nI_add, nI_e0, nI_ee, nI_leI, nI_ltI, xbool0, xbool1, xbn0, xbn1, xb_0, xb_1, reduceIte, one0, Option.isNone_none, ne_eq, not_true_eq_false, not_false_eq_true, if_true, if_false, ite_not, Bool.true_and, Bool.and_true]
      · rw [if_neg a2, if_neg a2]
        simp (decide := true) (disch := omega) only [bq_174_42, bq_174_45, Option.bind_some, xasI, xasL, xasR, xin_t, cond_true, cond_false, nI_clamp, k_0, k_1, k_2, k_3, k_4, k_5, k_6, k_40, k_60, k_500, k_10000, pk_mul, nI_add, nI_e0, nI_ee, nI_leI, nI_ltI, xbool0, xbool1, xbn0, xbn1, xb_0, xb_1, reduceIte, one0, Option.isNone_none, ne_eq, not_true_eq_false, not_false_eq_true, if_true, if_false, ite_not, Bool.true_and, Bool.and_true]
    by_cases a2 : nu q 82 0 < 1199
    case neg =>
      rw [if_neg a2]
      refine ⟨gref q 6, ?_, fl2_rf _, gref_LX h0⟩
      simp (decide := true) (disch := omega) only [Option.bind_some, xasI, xasL, xasR, xin_t, cond_true, cond_false, nI_clamp, k_0, k_1, k_2, k_3, k_4, k_5, k_6, k_40, k_60, k_500, k_10000, pk_mul, nI_add, nI_e0, nI_ee, nI_leI, nI_ltI, xbool0, xbool1, xbn0, xbn1, xb_0, xb_1, reduceIte, one0, Option.isNone_none, ne_eq, not_true_eq_false, not_false_eq_true, if_true, if_false, ite_not, Bool.true_and, Bool.and_true, st1]
      simp (decide := true) (disch := omega) only [rq_174_50, Option.bind_some, xasI, xasL, xasR, xin_t, cond_true, cond_false, nI_clamp, k_0, k_1, k_2, k_3, k_4, k_5, k_6, k_40, k_60, k_500, k_10000, pk_mul, nI_add, nI_e0, nI_ee, nI_leI, nI_ltI, xbool0, xbool1, xbn0, xbn1, xb_0, xb_1, reduceIte, one0, Option.isNone_none, ne_eq, not_true_eq_false, not_false_eq_true, if_true, if_false, ite_not, Bool.true_and, Bool.and_true, h82.1, k_1199]
      rw [if_neg a2]
      simp (decide := true) (disch := omega) only [rq_174_61, bq_174_67, Option.bind_some, xasI, xasL, xasR, xin_t, cond_true, cond_false, nI_clamp, k_0, k_1, k_2, k_3, k_4, k_5, k_6, k_40, k_60, k_500, k_10000, pk_mul, nI_add, nI_e0, nI_ee, nI_leI, nI_ltI, xbool0, xbool1, xbn0, xbn1, xb_0, xb_1, reduceIte, one0, Option.isNone_none, ne_eq, not_true_eq_false, not_false_eq_true, if_true, if_false, ite_not, Bool.true_and, Bool.and_true, c_refuse (k := 6) (by decide) neg6]
    rw [if_pos a2]
    have l1 : LX (rup q 65 l (q.1 65 l + nI 1)) L := LX_up rfl h0
    have i82 : ∀ b, nu q 82 0 ≤ b → isN (rup q 65 l (q.1 65 l + nI 1)) 82 0 b := fun b hb => ⟨h82.1, hb⟩
    generalize hq1 : rup q 65 l (q.1 65 l + nI 1) = q1 at l1 i82
    have r1 : ∀ f, f ≠ 65 → q1.1 f = q.1 f := fun f hf => by rw [← hq1]; exact rup_ne _ _ _ _ hf
    have r2 : q1.2 = q.2 := by rw [← hq1]; rfl
    have iN : ∀ f i b, f ≠ 65 → (isN q1 f i b ↔ isN q f i b) := fun f i b hf => by unfold isN nu; rw [r1 f hf]
    have nN : ∀ f i, f ≠ 65 → nu q1 f i = nu q f i := fun f i hf => by unfold nu; rw [r1 f hf]
    have st2 : xZ T0 MI 174 8 [some (vr (some B)), some (vi (nI l)), o2, o3, o4, o5] [vi 1] (rput B q M) = if (nu q 60 l = 1 ∨ nu q 60 l = 2) ∨ ¬ q.1 0 (nu q 61 l) = 0 then xZ T0 MI 174 127 [some (vr (some B)), some (vi (nI l)), some (vi (if nu q 60 l = 1 ∨ nu q 60 l = 2 then nI 0 else nI 1)), some (vi (nI (nu q 61 l))), some (vi (q.1 63 l)), o5] [vi (if nu q 60 l = 1 ∨ nu q 60 l = 2 then nI 0 else nI (40 * nu q 61 l + nu q 63 l))] (rput B q1 M) else some (some (vi (nI 0)), rput B q1 M) := by
      have e61 : q1.1 61 l = nI (nu q 61 l) := by rw [r1 61 (by decide)]; exact d61.1
      have e63 : q1.1 63 l = q.1 63 l := by rw [r1 63 (by decide)]
      have e0 : q1.1 0 = q.1 0 := r1 0 (by decide)
      rw [st1]
      by_cases a3 : nu q 60 l = 1 ∨ nu q 60 l = 2
      · rw [if_pos a3, if_pos (Or.inl a3), if_pos a3]
        simp (decide := true) (disch := omega) only [rq_174_50, Option.bind_some, xasI, xasL, xasR, xin_t, cond_true, cond_false, nI_clamp, k_0, k_1, k_2, k_3, k_4, k_5, k_6, k_40, k_60, k_500, k_10000, pk_mul, nI_add, nI_e0, nI_ee, nI_leI, nI_ltI, xbool0, xbool1, xbn0, xbn1, xb_0, xb_1, reduceIte, one0, Option.isNone_none, ne_eq, not_true_eq_false, not_false_eq_true, if_true, if_false, ite_not, Bool.true_and, Bool.and_true, h82.1, k_1199]
        rw [if_pos a2]
        simp (decide := true) (disch := omega) only [rq_174_68, Option.bind_some, xasI, xasL, xasR, xin_t, cond_true, cond_false, nI_clamp, k_0, k_1, k_2, k_3, k_4, k_5, k_6, k_40, k_60, k_500, k_10000, pk_mul, nI_add, nI_e0, nI_ee, nI_leI, nI_ltI, xbool0, xbool1, xbn0, xbn1, xb_0, xb_1, reduceIte, one0, Option.isNone_none, ne_eq, not_true_eq_false, not_false_eq_true, if_true, if_false, ite_not, Bool.true_and, Bool.and_true, hq1]
        simp (decide := true) (disch := omega) only [rq_174_98, bq_174_126, Option.bind_some, xasI, xasL, xasR, xin_t, cond_true, cond_false, nI_clamp, k_0, k_1, k_2, k_3, k_4, k_5, k_6, k_40, k_60, k_500, k_10000, pk_mul, nI_add, nI_e0, nI_ee, nI_leI, nI_ltI, xbool0, xbool1, xbn0, xbn1, xb_0, xb_1, reduceIte, one0, Option.isNone_none, ne_eq, not_true_eq_false, not_false_eq_true, if_true, if_false, ite_not, Bool.true_and, Bool.and_true, e61, e63]
      · rw [if_neg a3, if_neg a3]
        simp (decide := true) (disch := omega) only [rq_174_50, Option.bind_some, xasI, xasL, xasR, xin_t, cond_true, cond_false, nI_clamp, k_0, k_1, k_2, k_3, k_4, k_5, k_6, k_40, k_60, k_500, k_10000, pk_mul, nI_add, nI_e0, nI_ee, nI_leI, nI_ltI, xbool0, xbool1, xbn0, xbn1, xb_0, xb_1, reduceIte, one0, Option.isNone_none, ne_eq, not_true_eq_false, not_false_eq_true, if_true, if_false, ite_not, Bool.true_and, Bool.and_true, h82.1, k_1199]
        rw [if_pos a2]
        simp (decide := true) (disch := omega) only [rq_174_68, Option.bind_some, xasI, xasL, xasR, xin_t, cond_true, cond_false, nI_clamp, k_0, k_1, k_2, k_3, k_4, k_5, k_6, k_40, k_60, k_500, k_10000, pk_mul, nI_add, nI_e0, nI_ee, nI_leI, nI_ltI, xbool0, xbool1, xbn0, xbn1, xb_0, xb_1, reduceIte, one0, Option.isNone_none, ne_eq, not_true_eq_false, not_false_eq_true, if_true, if_false, ite_not, Bool.true_and, Bool.and_true, hq1]
        simp (decide := true) (disch := omega) only [rq_174_82, Option.bind_some, xasI, xasL, xasR, xin_t, cond_true, cond_false, nI_clamp, k_0, k_1, k_2, k_3, k_4, k_5, k_6, k_40, k_60, k_500, k_10000, pk_mul, nI_add, nI_e0, nI_ee, nI_leI, nI_ltI, xbool0, xbool1, xbn0, xbn1, xb_0, xb_1, reduceIte, one0, Option.isNone_none, ne_eq, not_true_eq_false, not_false_eq_true, if_true, if_false, ite_not, Bool.true_and, Bool.and_true, e61, e0]
        by_cases a4 : q.1 0 (nu q 61 l) = 0
        · rw [if_pos a4, if_neg (fun h => h.elim a3 (fun h => h a4)), bq_174_96]
          rfl
        · rw [if_neg a4, if_pos (Or.inr a4)]
          have e63n : q.1 63 l = nI (nu q 63 l) := (dH (fun e => a3 (Or.inl e)) (fun e => a3 (Or.inr e))).1
          simp (decide := true) (disch := omega) only [rq_174_98, bq_174_117, bq_174_123, Option.bind_some, xasI, xasL, xasR, xin_t, cond_true, cond_false, nI_clamp, k_0, k_1, k_2, k_3, k_4, k_5, k_6, k_40, k_60, k_500, k_10000, pk_mul, nI_add, nI_e0, nI_ee, nI_leI, nI_ltI, xbool0, xbool1, xbn0, xbn1, xb_0, xb_1, reduceIte, one0, Option.isNone_none, ne_eq, not_true_eq_false, not_false_eq_true, if_true, if_false, ite_not, Bool.true_and, Bool.and_true, e61, e63, e63n, c_spot]
    have st3 : xZ T0 MI 174 8 [some (vr (some B)), some (vi (nI l)), o2, o3, o4, o5] [vi 1] (rput B q M) = _ := st2
    by_cases a3 : (nu q 60 l = 1 ∨ nu q 60 l = 2) ∨ ¬ q.1 0 (nu q 61 l) = 0
    case neg =>
      rw [if_neg a3] at st3 ⊢
      refine ⟨q1, ?_, fl2_rf _, l1⟩
      simp (decide := true) (disch := omega) only [Option.bind_some, xasI, xasL, xasR, xin_t, cond_true, cond_false, nI_clamp, k_0, k_1, k_2, k_3, k_4, k_5, k_6, k_40, k_60, k_500, k_10000, pk_mul, nI_add, nI_e0, nI_ee, nI_leI, nI_ltI, xbool0, xbool1, xbn0, xbn1, xb_0, xb_1, reduceIte, one0, Option.isNone_none, ne_eq, not_true_eq_false, not_false_eq_true, if_true, if_false, ite_not, Bool.true_and, Bool.and_true, st3]
    rw [if_pos a3] at st3 ⊢
    have d60' : q1.1 60 l = nI (nu q 60 l) := by rw [r1 60 (by decide)]; exact d60.1
    have goal1 : ∃ q', xZ T0 MI 174 127 [some (vr (some B)), some (vi (nI l)), some (vi (if nu q 60 l = 1 ∨ nu q 60 l = 2 then nI 0 else nI 1)), some (vi (nI (nu q 61 l))), some (vi (q.1 63 l)), o5] [vi (if nu q 60 l = 1 ∨ nu q 60 l = 2 then nI 0 else nI (40 * nu q 61 l + nu q 63 l))] (rput B q1 M) = some (some (vi (nI 1)), rput B q' M) ∧ fl2 (adel1 q1 L l).1 q' ∧ LX q' (adel1 q1 L l).2 := by
      clear st1 st2 st3
      unfold adel1
      rw [nN 60 l (by decide), nN 61 l (by decide), nN 63 l (by decide)]
      generalize hk : nu q 60 l = k at *
      rw [rq_174_127]
      simp (decide := true) (disch := omega) only [Option.bind_some, xasI, xasL, xasR, xin_t, cond_true, cond_false, nI_clamp, k_0, k_1, k_2, k_3, k_4, k_5, k_6, k_40, k_60, k_500, k_10000, pk_mul, nI_add, nI_e0, nI_ee, nI_leI, nI_ltI, xbool0, xbool1, xbn0, xbn1, xb_0, xb_1, reduceIte, one0, Option.isNone_none, ne_eq, not_true_eq_false, not_false_eq_true, if_true, if_false, ite_not, Bool.true_and, Bool.and_true, d60']
      match k, b60, d60', dA, dO, dH, dC, dP with
      | 0, _, d60', _, _, dH, dC, _ =>
        rw [if_neg (by decide)]
        have h63 := dH (by decide) (by decide)
        have b63 := h63.2
        obtain ⟨c1, c2, c3, c4⟩ := dC rfl
        obtain ⟨q', e, f, l2⟩ := c_called (T0 := T0) (MI := MI) (B := B) (M := M) (o5 := none) (o6 := none) (o7 := none) (h := nu q 61 l) (r := nu q 63 l) l1 (show l < 1200 by omega) (by omega) (by omega) ((iN _ _ _ (by decide)).mpr h12) (i82 _ (by omega)) (by rw [iN _ _ _ (by decide)]; exact ⟨h44.1, by have := h44.2; omega⟩) ((iN _ _ _ (by decide)).mpr h88) ((iN _ _ _ (by decide)).mpr c1) ((iN _ _ _ (by decide)).mpr c2) (by rw [iN _ _ _ (by decide), nN _ _ (by decide), nN _ _ (by decide)]; exact c3) (by rw [nN _ _ (by decide), nN _ _ (by decide), r1 48 (by decide)]; exact c4)
        refine ⟨q', ?_, f, l2⟩
        show xZ T0 MI 174 172 [some (vr (some B)), some (vi (nI l)), some (vi (nI 1)), some (vi (nI (nu q 61 l))), some (vi (q.1 63 l)), some (vi (nI (40 * nu q 61 l + nu q 63 l)))] [] (rput B q1 M) = _
        simp (decide := true) (disch := omega) only [rq_174_172, bq_174_182, bq_174_247, Option.bind_some, xasI, xasL, xasR, xin_t, cond_true, cond_false, nI_clamp, k_0, k_1, k_2, k_3, k_4, k_5, k_6, k_40, k_60, k_500, k_10000, pk_mul, nI_add, nI_e0, nI_ee, nI_leI, nI_ltI, xbool0, xbool1, xbn0, xbn1, xb_0, xb_1, reduceIte, one0, Option.isNone_none, ne_eq, not_true_eq_false, not_false_eq_true, if_true, if_false, ite_not, Bool.true_and, Bool.and_true, h63.1, e]
      | 1, _, d60', dA, _, _, _, _ =>
        rw [if_neg (by decide)]
        have h66 := dA rfl
        have b66 := h66.2
        refine ⟨_, ?_, fl2_rf _, gheardA_LX l1⟩
        show xZ T0 MI 174 185 [some (vr (some B)), some (vi (nI l)), some (vi (nI 0)), some (vi (nI (nu q 61 l))), some (vi (q.1 63 l)), some (vi (nI 0))] [] (rput B q1 M) = _
        simp (decide := true) (disch := omega) only [rq_174_185, Option.bind_some, xasI, xasL, xasR, xin_t, cond_true, cond_false, nI_clamp, k_0, k_1, k_2, k_3, k_4, k_5, k_6, k_40, k_60, k_500, k_10000, pk_mul, nI_add, nI_e0, nI_ee, nI_leI, nI_ltI, xbool0, xbool1, xbn0, xbn1, xb_0, xb_1, reduceIte, one0, Option.isNone_none, ne_eq, not_true_eq_false, not_false_eq_true, if_true, if_false, ite_not, Bool.true_and, Bool.and_true]
        rw [c_answered (c := nu q 61 l) (n := nu q 66 l) (by omega) (by rw [r1 61 (by decide)]; exact d61.1) (by omega) (by rw [r1 66 (by decide)]; exact h66.1) (by omega), nN 66 l (by decide)]
        simp (decide := true) (disch := omega) only [bq_174_190, bq_174_247, Option.bind_some, xasI, xasL, xasR, xin_t, cond_true, cond_false, nI_clamp, k_0, k_1, k_2, k_3, k_4, k_5, k_6, k_40, k_60, k_500, k_10000, pk_mul, nI_add, nI_e0, nI_ee, nI_leI, nI_ltI, xbool0, xbool1, xbn0, xbn1, xb_0, xb_1, reduceIte, one0, Option.isNone_none, ne_eq, not_true_eq_false, not_false_eq_true, if_true, if_false, ite_not, Bool.true_and, Bool.and_true]
      | 2, _, d60', _, dO, _, _, _ =>
        rw [if_neg (by decide)]
        refine ⟨_, ?_, fl2_rf _, gold_LX l1⟩
        show xZ T0 MI 174 193 [some (vr (some B)), some (vi (nI l)), some (vi (nI 0)), some (vi (nI (nu q 61 l))), some (vi (q.1 63 l)), some (vi (nI 0))] [] (rput B q1 M) = _
        simp (decide := true) (disch := omega) only [rq_174_193, Option.bind_some, xasI, xasL, xasR, xin_t, cond_true, cond_false, nI_clamp, k_0, k_1, k_2, k_3, k_4, k_5, k_6, k_40, k_60, k_500, k_10000, pk_mul, nI_add, nI_e0, nI_ee, nI_leI, nI_ltI, xbool0, xbool1, xbn0, xbn1, xb_0, xb_1, reduceIte, one0, Option.isNone_none, ne_eq, not_true_eq_false, not_false_eq_true, if_true, if_false, ite_not, Bool.true_and, Bool.and_true]
        rw [c_old (by omega) ((iN _ _ _ (by decide)).mpr d61) (by
          rw [r1 63 (by decide), nN 70 l (by decide), nN 71 l (by decide), nN 61 l (by decide), iN _ _ _ (by decide), iN _ _ _ (by decide), iN _ _ _ (by decide), iN _ _ _ (by decide), nN 58 _ (by decide), nN 59 _ (by decide)]
          exact dO rfl)]
        simp (decide := true) (disch := omega) only [bq_174_198, bq_174_247, Option.bind_some, xasI, xasL, xasR, xin_t, cond_true, cond_false, nI_clamp, k_0, k_1, k_2, k_3, k_4, k_5, k_6, k_40, k_60, k_500, k_10000, pk_mul, nI_add, nI_e0, nI_ee, nI_leI, nI_ltI, xbool0, xbool1, xbn0, xbn1, xb_0, xb_1, reduceIte, one0, Option.isNone_none, ne_eq, not_true_eq_false, not_false_eq_true, if_true, if_false, ite_not, Bool.true_and, Bool.and_true]
      | 3, _, d60', _, _, dH, _, _ =>
        rw [if_neg (by decide)]
        have h63 := dH (by decide) (by decide)
        have b63 := h63.2
        obtain ⟨q', e, f, l2⟩ := c_begun (T0 := T0) (MI := MI) (B := B) (M := M) (p := 40 * nu q 61 l + nu q 63 l) l1 (show l < 1200 by omega) (by omega)
        refine ⟨q', ?_, f, l2⟩
        show xZ T0 MI 174 201 [some (vr (some B)), some (vi (nI l)), some (vi (nI 1)), some (vi (nI (nu q 61 l))), some (vi (q.1 63 l)), some (vi (nI (40 * nu q 61 l + nu q 63 l)))] [] (rput B q1 M) = _
        simp (decide := true) (disch := omega) only [rq_174_201, bq_174_208, bq_174_247, Option.bind_some, xasI, xasL, xasR, xin_t, cond_true, cond_false, nI_clamp, k_0, k_1, k_2, k_3, k_4, k_5, k_6, k_40, k_60, k_500, k_10000, pk_mul, nI_add, nI_e0, nI_ee, nI_leI, nI_ltI, xbool0, xbool1, xbn0, xbn1, xb_0, xb_1, reduceIte, one0, Option.isNone_none, ne_eq, not_true_eq_false, not_false_eq_true, if_true, if_false, ite_not, Bool.true_and, Bool.and_true, e]
      | 4, _, d60', _, _, dH, _, dP =>
        rw [if_neg (by decide)]
        have h63 := dH (by decide) (by decide)
        have b63 := h63.2
        obtain ⟨q', e, f, l2⟩ := c_parted (T0 := T0) (MI := MI) (B := B) (M := M) (o5 := none) (o6 := none) (o7 := none) (o8 := none) (o9 := none) (o10 := none) (h := nu q 61 l) (r := nu q 63 l) l1 (by rw [nN _ _ (by decide)]; exact hl) (by omega) (by omega) (i82 _ (by omega)) (by rw [iN _ _ _ (by decide), r1 69 (by decide)]; exact dP rfl)
        refine ⟨q', ?_, f, l2⟩
        show xZ T0 MI 174 211 [some (vr (some B)), some (vi (nI l)), some (vi (nI 1)), some (vi (nI (nu q 61 l))), some (vi (q.1 63 l)), some (vi (nI (40 * nu q 61 l + nu q 63 l)))] [] (rput B q1 M) = _
        simp (decide := true) (disch := omega) only [rq_174_211, bq_174_221, bq_174_247, Option.bind_some, xasI, xasL, xasR, xin_t, cond_true, cond_false, nI_clamp, k_0, k_1, k_2, k_3, k_4, k_5, k_6, k_40, k_60, k_500, k_10000, pk_mul, nI_add, nI_e0, nI_ee, nI_leI, nI_ltI, xbool0, xbool1, xbn0, xbn1, xb_0, xb_1, reduceIte, one0, Option.isNone_none, ne_eq, not_true_eq_false, not_false_eq_true, if_true, if_false, ite_not, Bool.true_and, Bool.and_true, h63.1, e]
      | 5, _, d60', _, _, dH, _, _ =>
        rw [if_neg (by decide)]
        have h63 := dH (by decide) (by decide)
        have b63 := h63.2
        obtain ⟨q', e, f, l2⟩ := c_took (T0 := T0) (MI := MI) (B := B) (M := M) (o5 := none) (h := nu q 61 l) (r := nu q 63 l) l1 (show l < 1200 by omega) (by omega) (by omega) (i82 _ (by omega))
        refine ⟨q', ?_, f, l2⟩
        show xZ T0 MI 174 224 [some (vr (some B)), some (vi (nI l)), some (vi (nI 1)), some (vi (nI (nu q 61 l))), some (vi (q.1 63 l)), some (vi (nI (40 * nu q 61 l + nu q 63 l)))] [] (rput B q1 M) = _
        simp (decide := true) (disch := omega) only [rq_174_224, bq_174_234, bq_174_247, Option.bind_some, xasI, xasL, xasR, xin_t, cond_true, cond_false, nI_clamp, k_0, k_1, k_2, k_3, k_4, k_5, k_6, k_40, k_60, k_500, k_10000, pk_mul, nI_add, nI_e0, nI_ee, nI_leI, nI_ltI, xbool0, xbool1, xbn0, xbn1, xb_0, xb_1, reduceIte, one0, Option.isNone_none, ne_eq, not_true_eq_false, not_false_eq_true, if_true, if_false, ite_not, Bool.true_and, Bool.and_true, h63.1, e]
      | k + 6, b60, d60', _, _, dH, _, _ =>
        have h63 := dH (by omega) (by omega)
        have b63 := h63.2
        rw [if_pos (by rw [nI_toInt (by omega)]; right; omega), if_neg (by omega), if_neg (by omega)]
        have e1 := c_moved (T0 := T0) (MI := MI) (B := B) (M := M) (o5 := none) (o6 := none) (q := q1) (k := k + 6) (l := l) (h := nu q 61 l) (r := nu q 63 l) (by omega) (by omega) (by omega) (i82 _ (by omega)) ((iN _ _ _ (by decide)).mpr h44) d60' (by omega) b60
        refine ⟨_, ?_, fl2_rf _, gmvd_LX l1⟩
        simp (decide := true) (disch := omega) only [rq_174_237, bq_174_247, Option.bind_some, xasI, xasL, xasR, xin_t, cond_true, cond_false, nI_clamp, k_0, k_1, k_2, k_3, k_4, k_5, k_6, k_40, k_60, k_500, k_10000, pk_mul, nI_add, nI_e0, nI_ee, nI_leI, nI_ltI, xbool0, xbool1, xbn0, xbn1, xb_0, xb_1, reduceIte, one0, Option.isNone_none, ne_eq, not_true_eq_false, not_false_eq_true, if_true, if_false, ite_not, Bool.true_and, Bool.and_true, h63.1, e1]
    obtain ⟨q', e, f, l2⟩ := goal1
    refine ⟨q', ?_, f, l2⟩
    simp (decide := true) (disch := omega) only [Option.bind_some, xasI, xasL, xasR, xin_t, cond_true, cond_false, nI_clamp, k_0, k_1, k_2, k_3, k_4, k_5, k_6, k_40, k_60, k_500, k_10000, pk_mul, nI_add, nI_e0, nI_ee, nI_leI, nI_ltI, xbool0, xbool1, xbn0, xbn1, xb_0, xb_1, reduceIte, one0, Option.isNone_none, ne_eq, not_true_eq_false, not_false_eq_true, if_true, if_false, ite_not, Bool.true_and, Bool.and_true, st3]
    exact e
