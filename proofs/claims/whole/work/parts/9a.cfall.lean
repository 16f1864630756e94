/-! hold, fall, plan -/
theorem c_hold1 {T0 MI h a ar gv r b : Nat} {M : xM} {ow : xOw} {f : Nat → Option Nat} {up : Int32} {gs : List Nat} (H : oHs T0 M ow h a ar gv f up gs) (hr : r < 40) (hb : f r = some b) : xZ T0 MI 28 0 [some (vr (some a)), some (vi (nI r))] [] M = some (some (vr (some b)), M) := by
  obtain ⟨h1, h2, -⟩ := H
  have rd : xaR M ar (nI r) = some (f r) := by
    rw [aR h2 rfl, xin_t hr (by decide), cond_true, nI_clamp (by omega)]
  rw [bq_28_0, if_neg (nlt0 (by omega)), bq_28_4, k_40, if_pos ((nI_ltI (by omega) (by decide)).mpr hr), bq_28_12, gR h1 2 rfl, Option.bind_some, Option.bind_some, rd, Option.bind_some, hb, Option.isNone_some, cond_false, bq_28_34, gR h1 2 rfl, Option.bind_some, Option.bind_some, rd, hb, Option.bind_some]
theorem R_hold {T0 MI X n h r a : Nat} {ad : Nat → Nat} {fh fp : Nat → Option Nat} {cl ll dl : List Nat} {aa : Nat → Nat} {pk : Nat → Option Nat} {q : xrho} {L : xLs} {M : xM} {ow : xOw} {f : Nat → Option Nat} (H : Rep T0 X n ad fh fp cl ll dl aa pk q L M ow) (B : bds q) (hh : h < 6) (hr : r < 40) (ha : fh h = some a) (hf : rHost T0 M ow h a f q) (hfs : ∀ r', r' < 40 → rHold M ow (f r') (40 * h + r') q L pk) : ∃ M' ow' b f', xZ T0 MI 28 0 [some (vr (some a)), some (vi (nI r))] [] M = some (some (vr (some b)), M') ∧ Rep T0 X n ad fh fp cl ll dl aa pk q L M' ow' ∧ rHost T0 M' ow' h a f' q ∧ (∀ r', r' < 40 → rHold M' ow' (f' r') (40 * h + r') q L pk) ∧ f' r = some b ∧ (∀ r', r' ≠ r → f' r' = f r') ∧ stp (fun t => t.1 ≠ 10 + h ∧ t.1 ≠ 100 + (40 * h + r)) 11 229 ow M ow' M' := by
  cases hfr : f r with
  | some b =>
    have hf0 := hf
    obtain ⟨ar, gv, gs, oh, -⟩ := hf
    exact ⟨M, ow, b, f, c_hold1 oh hr hfr, H, hf0, hfs, hfr, fun _ _ => rfl, stp_w (stp_rf _ _ _) (fun _ h => h) (by omega) (by omega)⟩
  | none =>
    have hN := hfs r hr
    rw [hfr] at hN
    obtain ⟨z15, z30, z31⟩ := hN
    obtain ⟨ar, gv, gs, oh, gt⟩ := hf
    obtain ⟨h1, h2, ⟨o1, o2⟩, ⟨b1, b2⟩, l1⟩ := oh
    have rd : xaR M ar (nI r) = some (f r) := by
      rw [aR h2 rfl, xin_t hr (by decide), cond_true, nI_clamp (by omega)]
    have s0 : ∀ P, stp P 1 14 ow M (va_up ow M.1 (100 + (40 * h + r), 0)) (xnewO M 2) := fun P => newO_f (c := 2) (o := (100 + (40 * h + r), 0)) P (fun _ => by show 100 + (40 * h + r) < _; omega) (by decide)
    obtain ⟨M1, ow1, ra, ka, sa, e1, hA, s1⟩ := oH_new (T0 := T0) (MI := MI) (g := 100 + (40 * h + r)) (a := M.1) (M := xnewO M 2) (ow := va_up ow M.1 (100 + (40 * h + r), 0)) (newO_at M 2) (va_up_self _ _ _) (Nat.lt_succ_self _)
    have s01 : stp (fun t => t.1 ≠ 100 + (40 * h + r)) 11 229 ow M ow1 M1 := stp_tr (s0 _) s1
    have c2 := s01.2.2.2 ar b2
    have h2' : M1.2.2 ar = .inl (6, 40, .inr (.inr f)) := (c2.2 (by rw [o2]; show 10 + h ≠ _; omega)).trans h2
    have o2' : ow1 ar = (10 + h, 1) := c2.1.trans o2
    have may : xmayR M1 6 (some M.1) = true := mayR hA.1 rfl
    have wr : xsR M1 ar (nI r) (some M.1) = some (xset M1 ar (.inl (6, 40, .inr (.inr (va_up f r (some M.1)))))) := by
      rw [sR h2' rfl, xin_t hr (by decide), may, nI_clamp (by omega)]
      rfl
    have s2 : ∀ z, stp (fun t => t ≠ (10 + h, 1)) 0 0 ow1 M1 ow1 (xset M1 ar z) := fun z => stp_set (by rw [o2']; exact fun h => h rfl)
    have s3 : ∀ z, stp (fun t => t.1 ≠ 10 + h ∧ t.1 ≠ 100 + (40 * h + r)) 11 229 ow M ow1 (xset M1 ar z) := fun z => stp_tr (stp_w s01 (fun t ht => ht.2) (Nat.le_refl _) (Nat.le_refl _)) (stp_w (s2 z) (fun t ht e => ht.1 (by rw [e])) (Nat.le_refl _) (Nat.le_refl _))
    have s4 : ∀ z, stp (fun t => t ≠ (10 + h, 1) ∧ t.1 ≠ 100 + (40 * h + r)) 11 229 ow M ow1 (xset M1 ar z) := fun z => stp_tr (stp_w s01 (fun t ht => ht.2) (Nat.le_refl _) (Nat.le_refl _)) (stp_w (s2 z) (fun t ht => ht.1) (Nat.le_refl _) (Nat.le_refl _))
    have oh2 : oHs T0 (xset M1 ar (.inl (6, 40, .inr (.inr (va_up f r (some M.1)))))) ow1 h a ar gv (va_up f r (some M.1)) (q.1 0 h) gs := by
      have c1 := (s4 (.inl (6, 40, .inr (.inr (va_up f r (some M.1)))))).2.2.2 a b1
      refine ⟨?_, xset_at _ _ _, ⟨?_, o2'⟩, ⟨?_, ?_⟩, oList_f l1 (s4 _) (fun t ht => ⟨fun e => by rw [e] at ht; exact absurd ht.2.1 (by simp), by have := ht.1; omega⟩) (fun t ht => ⟨fun e => by rw [e] at ht; exact absurd ht (by simp only; omega), by omega⟩)⟩
      · rw [c1.2 (by rw [o1]; exact ⟨by simp, by show 10 + h ≠ _; omega⟩)]; exact h1
      · exact c1.1.trans o1
      · have := (s4 (.inl (6, 40, .inr (.inr (va_up f r (some M.1)))))).1; omega
      · have := (s4 (.inl (6, 40, .inr (.inr (va_up f r (some M.1)))))).1; omega
    have hh2 : rHost T0 (xset M1 ar (.inl (6, 40, .inr (.inr (va_up f r (some M.1)))))) ow1 h a (va_up f r (some M.1)) q := ⟨ar, gv, gs, oh2, gvT_f gt (s3 _) (fun t ht => by omega) (qe_rf _ _ _)⟩
    have hf2 : ∀ r', r' < 40 → rHold (xset M1 ar (.inl (6, 40, .inr (.inr (va_up f r (some M.1)))))) ow1 (va_up f r (some M.1) r') (40 * h + r') q L pk := fun r' hr' => by
      by_cases er : r' = r
      · subst er
        rw [va_up_self]
        refine ⟨ra, ka, sa, _, none, [], _, [], hA_f hA (s2 _) (fun t ht e => by rw [e] at ht; exact absurd ht (by show ¬ 10 + h = _; omega)), ⟨z15.symm, z30.symm, z31.symm⟩, fun _ => ⟨rfl, fun _ _ => rfl⟩, fun e => absurd z15 e, fun e => ?_, fun e => ?_, fun e => ?_⟩
        · rw [z15] at e; rcases e with e | e | e <;> exact absurd e (by decide)
        · rw [z15] at e; rcases e with e | e <;> exact absurd e (by decide)
        · rw [z15] at e; exact absurd e (by decide)
      · rw [va_up_ne _ _ er]
        exact rHold_f (hfs r' hr') (s3 _) (fun t ht => by omega) (hs_rf _ _ _ _)
    refine ⟨_, ow1, M.1, va_up f r (some M.1), ?_, ?_, hh2, hf2, va_up_self _ _ _, fun r' hr' => va_up_ne _ _ hr', s3 _⟩
    · have h1n := newO_c (c := 2) h1 b1
      rw [bq_28_0, if_neg (nlt0 (by omega)), bq_28_4, k_40, if_pos ((nI_ltI (by omega) (by decide)).mpr hr), bq_28_12, gR h1 2 rfl, Option.bind_some, Option.bind_some, rd, Option.bind_some, hfr, Option.isNone_none, cond_true, bq_28_21, gR h1 2 rfl, Option.bind_some, e1]
      simp (decide := true) (disch := omega) only [Option.bind_some, xasI, xasL, xasR, xin_t, cond_true, cond_false, nI_clamp, k_0, k_1, k_2, k_3, k_4, k_5, k_6, k_40, k_60, k_500, k_10000, pk_mul, nI_add, nI_e0, nI_ee, nI_leI, nI_ltI, xbool0, xbool1, xbn0, xbn1, xb_0, xb_1, reduceIte, one0, Option.isNone_none, ne_eq, not_true_eq_false, not_false_eq_true, if_true, if_false, ite_not, Bool.true_and, Bool.and_true]
      rw [bq_28_33, Option.bind_some, wr, Option.bind_some, bq_28_34, gR oh2.1 2 rfl, Option.bind_some, Option.bind_some, aR oh2.2.1 rfl, xin_t hr (by decide), cond_true, nI_clamp (by omega), va_up_self, Option.bind_some]
    · obtain ⟨H0, H1, H2, H3, H4, H5, H6, H7⟩ := H
      have hs := s3 (.inl (6, 40, .inr (.inr (va_up f r (some M.1)))))
      have hll : ll.length ≤ 1200 := by rw [H6.1]; exact B.2.2.1.2
      have hcl : cl.length ≤ 6 := by rw [H4.1]; exact B.1.2
      refine ⟨hs.2.1.2 H0, FH_f H1 hs (fun t a => ?_) (fun t a => ?_) (qe_rf _ _ _) (qe_rf _ _ _), fun j hj => ?_, FP_f H3 hs (fun t a b => ?_) (fun t a => ?_) (qe_rf _ _ _), FC_f H4 hcl hs (fun t a b => ?_) (fun t a => ?_) (fun t a => ?_) (qe_rf _ _ _) (qe_rf _ _ _) (Nat.le_refl _), FA_f H5 B.1.2 (fun c hc => (B.2.1 c hc).2) hs (fun t a b => ?_) (qe_rf _ _ _) (qeL_rf _ _ _), FL_f H6 hll hs (fun t a b => ?_) (fun t a => ?_) rfl (fun l hl => lsame_rf _ _ _ _), H7⟩
      any_goals omega
      by_cases ej : j = h
      · subst ej
        exact ⟨a, _, ha, hh2, hf2⟩
      · obtain ⟨a2, f2, g1, g2, g3⟩ := H2 j hj
        refine ⟨a2, f2, g1, rHost_f g2 hs (fun t ht => by omega) (fun t ht => by omega) (fun t ht => by omega) rfl (qe_rf _ _ _), fun r' hr' => ?_⟩
        have ne : 40 * j + r' ≠ 40 * h + r := by rcases Nat.lt_or_gt_of_ne ej with h | h <;> omega
        exact rHold_f (g3 r' hr') hs (fun t ht => by omega) (hs_rf _ _ _ _)
/-! fall -/
theorem c_forget_l {T0 MI X n h a : Nat} {ad : Nat → Nat} {fh fp : Nat → Option Nat} {cl ll dl : List Nat} {aa : Nat → Nat} {pk : Nat → Option Nat} {L : xLs} {ow : xOw} {f : Nat → Option Nat} (hh : h < 6) (ha : fh h = some a) : ∀ m r, r + m = 40 → ∀ (M : xM) (q : xrho) (k : Nat) (o3 : Option xV), k ≤ r → Rep T0 X n ad fh fp cl ll dl aa pk q L M ow → bds q → rHost T0 M ow h a f q → (∀ r', r' < 40 → rHold M ow (f r') (40 * h + r') q L pk) → ∃ M', xZ T0 MI 32 4 [some (vr (some a)), some (vi (nI k)), some (vi (nI r)), o3] [] M = some (some (vi (nI (gfal h r m q k).2)), M') ∧ Rep T0 X n ad fh fp cl ll dl aa pk (gfal h r m q k).1 L M' ow ∧ stp (fun t => ¬ (100 ≤ t.1 ∧ t.1 < 340)) 0 0 ow M ow M' := by
  intro m
  induction m with
  | zero =>
    intro r hr M q k o3 hk H B hf hfs
    have : r = 40 := by omega
    subst this
    refine ⟨M, ?_, H, stp_rf _ _ _⟩
    rw [bq_32_4, k_40, if_pos (by decide), bq_32_42]
    rfl
  | succ m ih =>
    intro r hr M q k o3 hk H B hf hfs
    have hr40 : r < 40 := by omega
    have hf0 := hf
    obtain ⟨ar, gv, gs, ⟨h1, h2, -⟩, -⟩ := hf
    have rd : xaR M ar (nI r) = some (f r) := by
      rw [aR h2 rfl, xin_t hr40 (by decide), cond_true, nI_clamp (by omega)]
    rw [bq_32_4, k_40, if_neg (by rw [nI_leI (by omega) (by omega)]; omega), bq_32_10, gR h1 2 rfl, Option.bind_some, Option.bind_some, rd, Option.bind_some]
    have hN := hfs r hr40
    by_cases h4 : q.1 15 (40 * h + r) = nI 4
    · have eg : gfal h r (m + 1) q k = gfal h (r + 1) m (rup q 15 (40 * h + r) (nI 0)) (k + 1) := by
        show (if q.1 15 (40 * h + r) = nI 4 then _ else _) = _
        rw [if_pos h4]
      rw [eg]
      cases hfr : f r with
      | none =>
        rw [hfr] at hN
        rw [hN.1] at h4
        exact absurd h4 (by decide)
      | some b =>
        have hN0 := hN
        rw [hfr] at hN
        have st := hd_st hN
        obtain ⟨ra, ka, sa, hhh, sn, R, K, S, hA, ti⟩ := hN
        obtain ⟨M1, e1, hA1, s1⟩ := c_beN (T0 := T0) (MI := MI) hA
        have R1 := Rep_hd (q' := rup q 15 (40 * h + r) (nI 0)) (L' := L) H B hh hr40 ha hf0 hfs s1 (by
          rw [hfr]
          refine ⟨ra, ka, sa, _, none, [], _, [], hA1, ?_⟩
          unfold tie
          rw [rup_at, rup_ne _ _ _ _ (k' := 30) (by decide), rup_ne _ _ _ _ (k' := 31) (by decide)]
          refine ⟨⟨rfl, ti.1.2.1, ti.1.2.2⟩, fun _ => ⟨rfl, fun _ _ => rfl⟩, fun e => absurd rfl e, fun e => ?_, fun e => ?_, fun e => ?_⟩
          · rcases e with e | e | e <;> exact absurd e (by decide)
          · rcases e with e | e <;> exact absurd e (by decide)
          · exact absurd e (by decide)) (fun k i a => by rw [rup_ne _ _ _ _ (by omega)]) (fun k p a b => by rw [rup_r, if_neg (fun e => a e.2)]) (fun _ _ _ _ => rfl) (fun _ _ => rfl) (fun _ _ => rfl) (fun _ _ _ _ => rfl) rfl
        have B1 : bds (rup q 15 (40 * h + r) (nI 0)) := B
        obtain ⟨M2, e2, H2, s2⟩ := ih (r + 1) (by omega) M1 (rup q 15 (40 * h + r) (nI 0)) (k + 1) (some (vr (some b))) (by omega) R1.1 B1 R1.2.1 R1.2.2
        refine ⟨M2, ?_, H2, stp_tr (stp_w s1 (fun t ht => by show t.1 ≠ _; omega) (Nat.le_refl _) (Nat.le_refl _)) s2⟩
        rw [Option.isNone_some, cond_false, bq_32_21, Option.bind_some, st.1, Option.bind_some, k_4, if_pos h4, bq_32_29, Option.bind_some, st.2, cond_true, e1]
        simp (decide := true) (disch := omega) only [Option.bind_some, xasI, xasL, xasR, xin_t, cond_true, cond_false, nI_clamp, k_0, k_1, k_2, k_3, k_4, k_5, k_6, k_40, k_60, k_500, k_10000, pk_mul, nI_add, nI_e0, nI_ee, nI_leI, nI_ltI, xbool0, xbool1, xbn0, xbn1, xb_0, xb_1, reduceIte, one0, Option.isNone_none, ne_eq, not_true_eq_false, not_false_eq_true, if_true, if_false, ite_not, Bool.true_and, Bool.and_true]
        rw [bq_32_33, bq_32_36, nI_s, nI_s]
        exact e2
    · have eg : gfal h r (m + 1) q k = gfal h (r + 1) m q k := by
        show (if q.1 15 (40 * h + r) = nI 4 then _ else _) = _
        rw [if_neg h4]
      rw [eg]
      obtain ⟨M2, e2, H2, s2⟩ := ih (r + 1) (by omega) M q k (some (vr (f r))) (by omega) H B hf0 hfs
      refine ⟨M2, ?_, H2, s2⟩
      cases hfr : f r with
      | none =>
        rw [hfr] at e2
        rw [Option.isNone_none, cond_true, bq_32_36, nI_s]
        exact e2
      | some b =>
        rw [hfr] at hN e2
        rw [Option.isNone_some, cond_false, bq_32_21, Option.bind_some, (hd_st hN).1, Option.bind_some, k_4, if_neg h4, bq_32_36, nI_s]
        exact e2
theorem P_fall {T0 MI X n : Nat} {q : xrho} {L : xLs} {M : xM} {ow : xOw} {x : Int32} {o2 : Option xV} (H : RepE T0 X n q L M ow) (B : bds q) : ∃ M' ow', xZ T0 MI 77 0 [some (vr (some X)), some (vi x), o2] [] M = some (some (vi (gfall q x).1), M') ∧ RepE T0 X n (gfall q x).2 L M' ow' ∧ stp ext 0 0 ow M ow' M' := by
  have HE := H
  obtain ⟨ad, fh, fp, cl, ll, dl, aa, pk, H⟩ := H
  rw [bq_77_0, (ho_c H.2.1).1, cond_true, c_hostOf H.2.1]
  unfold gfall
  cases hx : ix x 6 with
  | none =>
    obtain ⟨M', e, h, s⟩ := P_ref (MI := MI) (i := 1) (x := Int32.ofInt (-1)) HE B (by decide) rfl
    refine ⟨M', ow, ?_, h, s⟩
    simp (decide := true) (disch := omega) only [Option.bind_some, xasI, xasL, xasR, xin_t, cond_true, cond_false, nI_clamp, k_0, k_1, k_2, k_3, k_4, k_5, k_6, k_40, k_60, k_500, k_10000, pk_mul, nI_add, nI_e0, nI_ee, nI_leI, nI_ltI, xbool0, xbool1, xbn0, xbn1, xb_0, xb_1, reduceIte, one0, Option.isNone_none, ne_eq, not_true_eq_false, not_false_eq_true, if_true, if_false, ite_not, Bool.true_and, Bool.and_true, Option.bind_none, Option.isNone_none, bq_77_5, bq_77_10, (ho_c H.2.1).1, e, bq_77_15]
  | some h =>
    obtain ⟨hh, rfl, -⟩ := ix_some (by decide) hx
    obtain ⟨a, f, h1, ⟨ar, gv, gs, ⟨h2, h3, o, b, h4⟩, h5⟩, h6⟩ := H.2.2.1 h hh
    simp (decide := true) (disch := omega) only [Option.bind_some, xasI, xasL, xasR, xin_t, cond_true, cond_false, nI_clamp, k_0, k_1, k_2, k_3, k_4, k_5, k_6, k_40, k_60, k_500, k_10000, pk_mul, nI_add, nI_e0, nI_ee, nI_leI, nI_ltI, xbool0, xbool1, xbn0, xbn1, xb_0, xb_1, reduceIte, one0, Option.isNone_none, ne_eq, not_true_eq_false, not_false_eq_true, if_true, if_false, ite_not, Bool.true_and, Bool.and_true, h1, Option.isNone_some, bq_77_5, bq_77_16, gI h2 1 rfl]
    by_cases e : q.1 0 h = 0
    · obtain ⟨M', e', h', s⟩ := P_ref (MI := MI) (i := 4) (x := Int32.ofInt (-4)) HE B (by decide) rfl
      rw [if_pos e, if_pos e]
      refine ⟨M', ow, ?_, h', s⟩
      simp (decide := true) (disch := omega) only [Option.bind_some, xasI, xasL, xasR, xin_t, cond_true, cond_false, nI_clamp, k_0, k_1, k_2, k_3, k_4, k_5, k_6, k_40, k_60, k_500, k_10000, pk_mul, nI_add, nI_e0, nI_ee, nI_leI, nI_ltI, xbool0, xbool1, xbn0, xbn1, xb_0, xb_1, reduceIte, one0, Option.isNone_none, ne_eq, not_true_eq_false, not_false_eq_true, if_true, if_false, ite_not, Bool.true_and, Bool.and_true, bq_77_23, (ho_c H.2.1).1, e', bq_77_29]
    · rw [if_neg e, if_neg e, bq_77_30]
      simp (decide := true) (disch := omega) only [Option.bind_some, xasI, xasL, xasR, xin_t, cond_true, cond_false, nI_clamp, k_0, k_1, k_2, k_3, k_4, k_5, k_6, k_40, k_60, k_500, k_10000, pk_mul, nI_add, nI_e0, nI_ee, nI_leI, nI_ltI, xbool0, xbool1, xbn0, xbn1, xb_0, xb_1, reduceIte, one0, Option.isNone_none, ne_eq, not_true_eq_false, not_false_eq_true, if_true, if_false, ite_not, Bool.true_and, Bool.and_true, pV h2 1 rfl]
      have hs : stp (fun t => t ≠ (10 + h, 0)) 0 0 ow M ow (xset M a (.inr (3, [vi (nI h), vi (nI 0), vr (some ar), vr (some gv)]))) := stp_set (by rw [o.1]; exact fun h => h rfl)
      have hs2 : stp (fun t => t.1 ≠ 10 + h) 0 0 ow M ow (xset M a (.inr (3, [vi (nI h), vi (nI 0), vr (some ar), vr (some gv)]))) := stp_w hs (fun t ht e => ht (by rw [e])) (Nat.le_refl _) (Nat.le_refl _)
      have hst : rHost T0 (xset M a (.inr (3, [vi (nI h), vi (nI 0), vr (some ar), vr (some gv)]))) ow h a f (rup q 0 h (nI 0)) := by
        refine ⟨ar, gv, gs, ⟨?_, ?_, o, b, ?_⟩, ?_⟩
        · rw [rup_at]; exact xset_at _ _ _
        · rw [xset_ne _ _ (ow_ne o.2 o.1 (by simp))]; exact h3
        · exact oList_f h4 hs (fun t ht e => by rw [e] at ht; exact absurd ht.2.1 (by simp)) (fun t ht e => by rw [e] at ht; exact absurd ht (by simp only; omega))
        · exact gvT_f h5 hs2 (fun t ht => by omega) (fun k i a b => by rw [rup_ne _ _ _ _ (by omega)])
      have H1 := Rep_hs H B hh h1 h6 hs2 hst (fun k i a => by rw [rup_ne _ _ _ _ a]) (fun k i a => by rw [rup_r, if_neg (fun h => a h.2)]) (fun _ _ => rfl)
      have h6' : ∀ r', r' < 40 → rHold (xset M a (.inr (3, [vi (nI h), vi (nI 0), vr (some ar), vr (some gv)]))) ow (f r') (40 * h + r') (rup q 0 h (nI 0)) L pk := fun r' hr' => rHold_f (h6 r' hr') hs2 (fun t ht => by omega) (hs_of (fun k i a b => by rw [rup_ne _ _ _ _ (by omega)]) (fun k i a b => by rw [rup_ne _ _ _ _ (by omega)]) (fun k i a b => by rw [rup_ne _ _ _ _ (by omega)]) rfl rfl (fun _ _ => rfl) (fun _ _ => rfl))
      have B1 : bds (rup q 0 h (nI 0)) := B
      obtain ⟨M2, e2, H2, s2⟩ := c_forget_l (T0 := T0) (MI := MI) hh h1 40 0 (by omega) _ _ 0 none (Nat.le_refl _) H1 B1 hst h6'
      refine ⟨M2, ow, ?_, ⟨_, _, _, _, _, _, _, _, H2⟩, stp_tr (ext_of hs2 (fun t ht => by omega) (Nat.le_refl _) (Nat.le_refl _)) (ext_of s2 (fun t ht => by omega) (Nat.le_refl _) (Nat.le_refl _))⟩
      rw [gC (xset_at _ _ _), cond_true, bq_32_0, k_0]
      rw [show xset M a (.inr (3, [vi (nI h), vi (q.1 0 h), vr (some ar), vr (some gv)].set 1 (vi (nI 0)))) = xset M a (.inr (3, [vi (nI h), vi (nI 0), vr (some ar), vr (some gv)])) from rfl, e2]
      simp (decide := true) (disch := omega) only [Option.bind_some, xasI, xasL, xasR, xin_t, cond_true, cond_false, nI_clamp, k_0, k_1, k_2, k_3, k_4, k_5, k_6, k_40, k_60, k_500, k_10000, pk_mul, nI_add, nI_e0, nI_ee, nI_leI, nI_ltI, xbool0, xbool1, xbn0, xbn1, xb_0, xb_1, reduceIte, one0, Option.isNone_none, ne_eq, not_true_eq_false, not_false_eq_true, if_true, if_false, ite_not, Bool.true_and, Bool.and_true, bq_77_39]
