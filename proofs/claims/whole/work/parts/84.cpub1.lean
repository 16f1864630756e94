/-! rise, lose, letter, order -/
def RepE (T0 X n : Nat) (q : xrho) (L : xLs) (M : xM) (ow : xOw) : Prop := ∃ (ad : Nat → Nat) (fh fp : Nat → Option Nat) (cl ll dl : List Nat) (aa : Nat → Nat) (pk : Nat → Option Nat), Rep T0 X n ad fh fp cl ll dl aa pk q L M ow
/-- one letter changed, in what it counts -/
theorem Rep_le {T0 X n x y l : Nat} {ad : Nat → Nat} {fh fp : Nat → Option Nat} {cl ll dl : List Nat} {aa : Nat → Nat} {pk : Nat → Option Nat} {q q' : xrho} {L : xLs} {M M' : xM} {ow ow' : xOw} (H : Rep T0 X n ad fh fp cl ll dl aa pk q L M ow) (B : bds q) (hl : l < ll.length) (hs : stp (fun t => t.1 ≠ 2000 + l) x y ow M ow' M') (hL : rLet M' ow' l ll[l] q' L aa (pk l)) (e : ∀ k i, k ≠ 65 → k ≠ 75 → q'.1 k i = q.1 k i) (e2 : ∀ k i, i ≠ l → q'.1 k i = q.1 k i) (eL : ∀ k i, q'.2 k i = q.2 k i) : Rep T0 X n ad fh fp cl ll dl aa pk q' L M' ow' := by
  obtain ⟨H0, H1, H2, H3, H4, H5, H6, H7⟩ := H
  have hll : ll.length ≤ 1200 := by rw [H6.1]; exact B.2.2.1.2
  have hcl : cl.length ≤ 6 := by rw [H4.1]; exact B.1.2
  refine ⟨hs.2.1.2 H0, FH_f H1 hs (fun t a => ?_) (fun t a => ?_) (fun k i a b => e k i (by omega) (by omega)) (fun k i a b => e k i (by omega) (by omega)), FT_f H2 hs ⟨fun t a b => ?_, fun t a b => ?_, fun t a => ?_, fun t a => ?_⟩ (fun k i a b => e k i (by omega) (by omega)) (fun k i a b => e k i (by omega) (by omega)) (fun p hp => hs_of (fun k i a b => e k i (by omega) (by omega)) (fun k i a b => e k i (by omega) (by omega)) (fun k i a b => e k i (by omega) (by omega)) rfl rfl (fun _ _ => rfl) (fun _ _ => rfl)), FP_f H3 hs (fun t a b => ?_) (fun t a => ?_) (fun k i a b => e k i (by omega) (by omega)), FC_f H4 hcl hs (fun t a b => ?_) (fun t a => ?_) (fun t a => ?_) (fun k i a b => e k i (by omega) (by omega)) (fun k i a b => e k i (by omega) (by omega)) (Nat.le_refl _), FA_f H5 B.1.2 (fun c hc => (B.2.1 c hc).2) hs (fun t a b => ?_) (fun k i a b => e k i (by omega) (by omega)) (fun k i _ _ => eL k i), ⟨?_, fun j hj => ?_⟩, FD_f H7 (fun k i a b => e k i (by omega) (by omega)) (fun k i a b c _ => e k i (by omega) (by omega))⟩
  any_goals omega
  · unfold nu
    rw [e 82 0 (by decide) (by decide)]
    exact H6.1
  · by_cases ej : j = l
    · subst ej
      exact hL
    · refine rLet_f (H6.2 j hj) hs (fun t a => by omega) (fun t a => by omega) ⟨fun k _ _ _ => e2 k j ej, fun i _ => ⟨e 74 _ (by decide) (by decide), e 76 _ (by decide) (by decide), eL 77 _⟩, fun _ _ => rfl, fun _ => rfl⟩
/-- one host changed -/
theorem Rep_hs {T0 X n x y h a : Nat} {ad : Nat → Nat} {fh fp : Nat → Option Nat} {cl ll dl : List Nat} {aa : Nat → Nat} {pk : Nat → Option Nat} {q q' : xrho} {L : xLs} {M M' : xM} {ow ow' : xOw} {f : Nat → Option Nat} (H : Rep T0 X n ad fh fp cl ll dl aa pk q L M ow) (B : bds q) (hh : h < 6) (ha : fh h = some a) (hf : ∀ r, r < 40 → rHold M ow (f r) (40 * h + r) q L pk) (hs : stp (fun t => t.1 ≠ 10 + h) x y ow M ow' M') (hL : rHost T0 M' ow' h a f q') (e : ∀ k i, k ≠ 0 → q'.1 k i = q.1 k i) (e2 : ∀ k i, i ≠ h → q'.1 k i = q.1 k i) (eL : ∀ k i, q'.2 k i = q.2 k i) : Rep T0 X n ad fh fp cl ll dl aa pk q' L M' ow' := by
  obtain ⟨H0, H1, H2, H3, H4, H5, H6, H7⟩ := H
  have hll : ll.length ≤ 1200 := by rw [H6.1]; exact B.2.2.1.2
  have hcl : cl.length ≤ 6 := by rw [H4.1]; exact B.1.2
  have hsm : ∀ p, hsame q L pk p q' L pk := fun p => hs_of (fun k i a b => e k i (by omega)) (fun k i a b => e k i (by omega)) (fun k i a b => e k i (by omega)) rfl rfl (fun _ _ => rfl) (fun _ _ => rfl)
  refine ⟨hs.2.1.2 H0, FH_f H1 hs (fun t a => ?_) (fun t a => ?_) (fun k i a b => e k i (by omega)) (fun k i a b => e k i (by omega)), fun j hj => ?_, FP_f H3 hs (fun t a b => ?_) (fun t a => ?_) (fun k i a b => e k i (by omega)), FC_f H4 hcl hs (fun t a b => ?_) (fun t a => ?_) (fun t a => ?_) (fun k i a b => e k i (by omega)) (fun k i a b => e k i (by omega)) (Nat.le_refl _), FA_f H5 B.1.2 (fun c hc => (B.2.1 c hc).2) hs (fun t a b => ?_) (fun k i a b => e k i (by omega)) (fun k i _ _ => eL k i), FL_f H6 hll hs (fun t a b => ?_) (fun t a => ?_) (e 82 0 (by decide)) (fun l hl => ls_of (fun k i a b => e k i (by omega)) (fun k i _ _ => eL k i) (fun _ _ => rfl)), FD_f H7 (fun k i a b => e k i (by omega)) (fun k i a b c _ => e k i (by omega))⟩
  any_goals omega
  by_cases ej : j = h
  · subst ej
    exact ⟨a, f, ha, hL, fun r hr => rHold_f (hf r hr) hs (fun t ht => by omega) (hsm _)⟩
  · obtain ⟨a2, f2, g1, g2, g3⟩ := H2 j hj
    exact ⟨a2, f2, g1, rHost_f g2 hs (fun t ht => by omega) (fun t ht => by omega) (fun t ht => by omega) (e2 0 j ej) (fun k i a b => e k i (by omega)), fun r hr => rHold_f (g3 r hr) hs (fun t ht => by omega) (hsm _)⟩
theorem lsame_rf (q : xrho) (L : xLs) (aa : Nat → Nat) (l : Nat) : lsame q L aa l q L aa := ⟨fun _ _ _ _ => rfl, fun _ _ => ⟨rfl, rfl, rfl⟩, fun _ _ => rfl, fun _ => rfl⟩
/-- the counts of a letter -/
theorem leT_n {P : Nat × Nat → Prop} {x y l : Nat} {ow ow' : xOw} {M M' : xM} {q q' : xrho} {L : xLs} {aa : Nat → Nat} {f f' : Nat → Int32} {v : Int64} {ask told par : Option Nat} (H : leT M ow q L aa l f v ask told par) (hs : stp P x y ow M ow' M') (h9 : ∀ t : Nat × Nat, 9999 ≤ t.1 → P t) (e : ∀ k i, k ≠ 65 → k ≠ 75 → q'.1 k i = q.1 k i) (eL : ∀ k i, q'.2 k i = q.2 k i) (ef : ∀ k, k < 14 → f' k = f k) (h14 : f' 14 = q'.1 75 l) (h15 : f' 15 = q'.1 65 l) : leT M' ow' q' L aa l f' v ask told par := by
  have H := leT_f H hs h9 (lsame_rf q L aa l)
  have e1 : ∀ k, k ≠ 65 → k ≠ 75 → nu q' k l = nu q k l := fun k a b => by unfold nu; rw [e k l a b]
  obtain ⟨h1, h2, h3, h4, h5, h6⟩ := H
  unfold leT
  rw [h14, h15, e1 62 (by decide) (by decide), e1 66 (by decide) (by decide), e1 69 (by decide) (by decide), eL 77, e 60 l (by decide) (by decide), e 61 l (by decide) (by decide), e 62 l (by decide) (by decide), e 63 l (by decide) (by decide), e 64 l (by decide) (by decide), e 66 l (by decide) (by decide), e 67 l (by decide) (by decide), e 68 l (by decide) (by decide), e 69 l (by decide) (by decide), e 70 l (by decide) (by decide), e 71 l (by decide) (by decide), e 72 l (by decide) (by decide), e 73 l (by decide) (by decide), ef 0 (by decide), ef 1 (by decide), ef 2 (by decide), ef 3 (by decide), ef 4 (by decide), ef 5 (by decide), ef 6 (by decide), ef 7 (by decide), ef 8 (by decide), ef 10 (by decide)]
  refine ⟨⟨h1.1, h1.2.1, h1.2.2.1, h1.2.2.2.1, h1.2.2.2.2.1, h1.2.2.2.2.2.1, h1.2.2.2.2.2.2.1, h1.2.2.2.2.2.2.2.1, rfl, rfl⟩, h2, h3, h4, h5, ?_⟩
  rcases h6 with h | ⟨p, g1, g2⟩
  · exact Or.inl h
  · have hl := (isPar_c g2).2.2.2.1
    rw [parcV_len] at hl
    refine Or.inr ⟨p, g1, ?_⟩
    rw [parcV_e (q := q) (q' := q') hl (fun j _ => ⟨e 74 _ (by decide) (by decide), e 76 _ (by decide) (by decide), eL 77 _⟩)]
    exact g2
theorem ext_of {P : Nat × Nat → Prop} {x y x' y' : Nat} {ow ow' : xOw} {M M' : xM} (h : stp P x y ow M ow' M') (hq : ∀ t : Nat × Nat, t.1 = 7 ∨ t.1 = 8 → P t) (hx : x ≤ x') (hy : y ≤ y') : stp ext x' y' ow M ow' M' := stp_w h hq hx hy
theorem P_ref {T0 MI X n i x' y' : Nat} {q : xrho} {L : xLs} {M : xM} {ow : xOw} {x : Int32} (H : RepE T0 X n q L M ow) (B : bds q) (hi : 1 ≤ i ∧ i ≤ 6) (hx : x = Int32.ofInt (-i)) : ∃ M', xZ T0 MI 96 0 [some (vr (some X)), some (vi x)] [] M = some (some (vi x), M') ∧ RepE T0 X n (gref q i) L M' ow ∧ stp ext x' y' ow M ow M' := by
  obtain ⟨ad, fh, fp, cl, ll, dl, aa, pk, H⟩ := H
  obtain ⟨M', e, h, s⟩ := R_refuse (T0 := T0) (MI := MI) (x := x) H B hi hx
  exact ⟨M', e, ⟨_, _, _, _, _, _, _, _, h⟩, ext_of s (fun t a => by omega) (Nat.zero_le _) (Nat.zero_le _)⟩
theorem P_rise {T0 MI X n : Nat} {q : xrho} {L : xLs} {M : xM} {ow : xOw} {x : Int32} {o2 : Option xV} (H : RepE T0 X n q L M ow) (B : bds q) : ∃ M' ow', xZ T0 MI 78 0 [some (vr (some X)), some (vi x), o2] [] M = some (some (vi (grise q x).1), M') ∧ RepE T0 X n (grise q x).2 L M' ow' ∧ stp ext 0 0 ow M ow' M' := by
  have HE := H
  obtain ⟨ad, fh, fp, cl, ll, dl, aa, pk, H⟩ := H
  rw [bq_78_0, (ho_c H.2.1).1, cond_true, c_hostOf H.2.1]
  unfold grise
  cases hx : ix x 6 with
  | none =>
    obtain ⟨M', e, h, s⟩ := P_ref (MI := MI) (i := 1) (x := Int32.ofInt (-1)) HE B (by decide) rfl
    refine ⟨M', ow, ?_, h, s⟩
    simp (decide := true) (disch := omega) only [Option.bind_some, xasI, xasL, xasR, xin_t, cond_true, cond_false, nI_clamp, k_0, k_1, k_2, k_3, k_4, k_5, k_6, k_40, k_60, k_500, k_10000, pk_mul, nI_add, nI_e0, nI_ee, nI_leI, nI_ltI, xbool0, xbool1, xbn0, xbn1, xb_0, xb_1, reduceIte, one0, Option.isNone_none, ne_eq, not_true_eq_false, not_false_eq_true, if_true, if_false, ite_not, Bool.true_and, Bool.and_true, Option.bind_none, Option.isNone_none, bq_78_5, bq_78_10, (ho_c H.2.1).1, e, bq_78_15]
  | some h =>
    obtain ⟨hh, rfl, -⟩ := ix_some (by decide) hx
    obtain ⟨a, f, h1, ⟨ar, gv, gs, ⟨h2, h3, o, b, h4⟩, h5⟩, h6⟩ := H.2.2.1 h hh
    simp (decide := true) (disch := omega) only [Option.bind_some, xasI, xasL, xasR, xin_t, cond_true, cond_false, nI_clamp, k_0, k_1, k_2, k_3, k_4, k_5, k_6, k_40, k_60, k_500, k_10000, pk_mul, nI_add, nI_e0, nI_ee, nI_leI, nI_ltI, xbool0, xbool1, xbn0, xbn1, xb_0, xb_1, reduceIte, one0, Option.isNone_none, ne_eq, not_true_eq_false, not_false_eq_true, if_true, if_false, ite_not, Bool.true_and, Bool.and_true, h1, Option.isNone_some, bq_78_5, bq_78_16, gI h2 1 rfl]
    by_cases e : q.1 0 h = 0
    · rw [if_pos e, if_pos e, bq_78_30]
      simp (decide := true) (disch := omega) only [Option.bind_some, xasI, xasL, xasR, xin_t, cond_true, cond_false, nI_clamp, k_0, k_1, k_2, k_3, k_4, k_5, k_6, k_40, k_60, k_500, k_10000, pk_mul, nI_add, nI_e0, nI_ee, nI_leI, nI_ltI, xbool0, xbool1, xbn0, xbn1, xb_0, xb_1, reduceIte, one0, Option.isNone_none, ne_eq, not_true_eq_false, not_false_eq_true, if_true, if_false, ite_not, Bool.true_and, Bool.and_true, pV h2 1 rfl]
      have hs : stp (fun t => t ≠ (10 + h, 0)) 0 0 ow M ow (xset M a (.inr (3, [vi (nI h), vi (nI 1), vr (some ar), vr (some gv)]))) := stp_set (by rw [o.1]; exact fun h => h rfl)
      have hs2 : stp (fun t => t.1 ≠ 10 + h) 0 0 ow M ow (xset M a (.inr (3, [vi (nI h), vi (nI 1), vr (some ar), vr (some gv)]))) := stp_w hs (fun t ht e => ht (by rw [e])) (Nat.le_refl _) (Nat.le_refl _)
      refine ⟨_, ow, rfl, ⟨ad, fh, fp, cl, ll, dl, aa, pk, Rep_hs H B hh h1 h6 hs2 ⟨ar, gv, gs, ⟨?_, ?_, o, b, ?_⟩, ?_⟩ (fun k i a => ?_) (fun k i a => ?_) (fun _ _ => rfl)⟩, ext_of hs2 (fun t ht => by omega) (Nat.le_refl _) (Nat.le_refl _)⟩
      · rw [rup_at]; exact xset_at _ _ _
      · rw [xset_ne _ _ (ow_ne o.2 o.1 (by simp))]; exact h3
      · exact oList_f h4 hs (fun t ht e => by rw [e] at ht; exact absurd ht.2.1 (by simp)) (fun t ht e => by rw [e] at ht; exact absurd ht (by simp only; omega))
      · exact gvT_f h5 hs2 (fun t ht => by omega) (fun k i a b => by rw [rup_ne _ _ _ _ (by omega)])
      · rw [rup_ne _ _ _ _ a]
      · rw [rup_r, if_neg (fun h => a h.2)]
    · obtain ⟨M', e', h', s⟩ := P_ref (MI := MI) (i := 4) (x := Int32.ofInt (-4)) HE B (by decide) rfl
      rw [if_neg e, if_neg e]
      refine ⟨M', ow, ?_, h', s⟩
      simp (decide := true) (disch := omega) only [Option.bind_some, xasI, xasL, xasR, xin_t, cond_true, cond_false, nI_clamp, k_0, k_1, k_2, k_3, k_4, k_5, k_6, k_40, k_60, k_500, k_10000, pk_mul, nI_add, nI_e0, nI_ee, nI_leI, nI_ltI, xbool0, xbool1, xbn0, xbn1, xb_0, xb_1, reduceIte, one0, Option.isNone_none, ne_eq, not_true_eq_false, not_false_eq_true, if_true, if_false, ite_not, Bool.true_and, Bool.and_true, bq_78_23, (ho_c H.2.1).1, e', bq_78_29]
theorem P_lose {T0 MI X n : Nat} {q : xrho} {L : xLs} {M : xM} {ow : xOw} {x : Int32} {o2 : Option xV} (H : RepE T0 X n q L M ow) (B : bds q) : ∃ M' ow', xZ T0 MI 84 0 [some (vr (some X)), some (vi x), o2] [] M = some (some (vi (glose q (nu q 82 0) x).1), M') ∧ RepE T0 X n (glose q (nu q 82 0) x).2 L M' ow' ∧ stp ext 0 0 ow M ow' M' := by
  have HE := H
  obtain ⟨ad, fh, fp, cl, ll, dl, aa, pk, H⟩ := H
  have H6 := H.2.2.2.2.2.2.1
  rw [bq_84_0, (ho_c H.2.1).1, cond_true, c_letterOf H.2.1 H6]
  unfold glose
  cases hx : ix x (nu q 82 0) with
  | none =>
    obtain ⟨M', e, h, s⟩ := P_ref (MI := MI) (i := 1) (x := Int32.ofInt (-1)) HE B (by decide) rfl
    refine ⟨M', ow, ?_, h, s⟩
    simp (decide := true) (disch := omega) only [Option.bind_some, xasI, xasL, xasR, xin_t, cond_true, cond_false, nI_clamp, k_0, k_1, k_2, k_3, k_4, k_5, k_6, k_40, k_60, k_500, k_10000, pk_mul, nI_add, nI_e0, nI_ee, nI_leI, nI_ltI, xbool0, xbool1, xbn0, xbn1, xb_0, xb_1, reduceIte, one0, Option.isNone_none, ne_eq, not_true_eq_false, not_false_eq_true, if_true, if_false, ite_not, Bool.true_and, Bool.and_true, Option.bind_none, Option.isNone_none, bq_84_5, bq_84_10, (ho_c H.2.1).1, e, bq_84_15]
  | some l =>
    obtain ⟨hl, rfl, -⟩ := ix_some (by have := B.2.2.1.2; omega) hx
    rw [← H6.1] at hl
    have hll : ll.length ≤ 1200 := by rw [H6.1]; exact B.2.2.1.2
    obtain ⟨f, v, ask, told, ⟨h1, o, b⟩, h2⟩ := H6.2 l hl
    have h14 := h2.1.2.2.2.2.2.2.2.2.1
    simp (decide := true) (disch := omega) only [Option.bind_some, xasI, xasL, xasR, xin_t, cond_true, cond_false, nI_clamp, k_0, k_1, k_2, k_3, k_4, k_5, k_6, k_40, k_60, k_500, k_10000, pk_mul, nI_add, nI_e0, nI_ee, nI_leI, nI_ltI, xbool0, xbool1, xbn0, xbn1, xb_0, xb_1, reduceIte, one0, Option.isNone_none, ne_eq, not_true_eq_false, not_false_eq_true, if_true, if_false, ite_not, Bool.true_and, Bool.and_true, List.getElem?_eq_getElem hl, Option.isNone_some, bq_84_5, bq_84_16, gI h1 14 rfl]
    rw [h14]
    by_cases e : q.1 75 l = 0
    · rw [if_pos e, if_pos e, bq_84_30]
      simp (decide := true) (disch := omega) only [Option.bind_some, xasI, xasL, xasR, xin_t, cond_true, cond_false, nI_clamp, k_0, k_1, k_2, k_3, k_4, k_5, k_6, k_40, k_60, k_500, k_10000, pk_mul, nI_add, nI_e0, nI_ee, nI_leI, nI_ltI, xbool0, xbool1, xbn0, xbn1, xb_0, xb_1, reduceIte, one0, Option.isNone_none, ne_eq, not_true_eq_false, not_false_eq_true, if_true, if_false, ite_not, Bool.true_and, Bool.and_true, pV h1 14 rfl]
      have hs : ∀ z, stp (fun t => t.1 ≠ 2000 + l) 0 0 ow M ow (xset M ll[l] z) := fun z => stp_set (by rw [o]; exact fun h => h rfl)
      refine ⟨_, ow, rfl, ⟨ad, fh, fp, cl, ll, dl, aa, pk, Rep_le H B hl (hs _) ⟨upd f 14 (nI 1), v, ask, told, ⟨xset_at _ _ _, o, b⟩, ?_⟩ (fun k i a b => ?_) (fun k i a => ?_) (fun _ _ => rfl)⟩, ext_of (hs _) (fun t ht => by omega) (Nat.le_refl _) (Nat.le_refl _)⟩
      · exact leT_n h2 (hs _) (fun t ht => by omega) (fun k i a b => by rw [rup_ne _ _ _ _ b]) (fun _ _ => rfl) (fun k hk => upd_ne _ _ (by omega)) (by rw [upd_at, rup_at]) (by rw [upd_ne _ _ (by decide), rup_ne _ _ _ _ (by decide)]; exact h2.1.2.2.2.2.2.2.2.2.2)
      · rw [rup_ne _ _ _ _ b]
      · rw [rup_r, if_neg (fun h => a h.2)]
    · obtain ⟨M', e', h', s⟩ := P_ref (MI := MI) (i := 5) (x := Int32.ofInt (-5)) HE B (by decide) rfl
      rw [if_neg e, if_neg e]
      refine ⟨M', ow, ?_, h', s⟩
      simp (decide := true) (disch := omega) only [Option.bind_some, xasI, xasL, xasR, xin_t, cond_true, cond_false, nI_clamp, k_0, k_1, k_2, k_3, k_4, k_5, k_6, k_40, k_60, k_500, k_10000, pk_mul, nI_add, nI_e0, nI_ee, nI_leI, nI_ltI, xbool0, xbool1, xbn0, xbn1, xb_0, xb_1, reduceIte, one0, Option.isNone_none, ne_eq, not_true_eq_false, not_false_eq_true, if_true, if_false, ite_not, Bool.true_and, Bool.and_true, bq_84_23, (ho_c H.2.1).1, e', bq_84_29]
theorem P_letter {T0 MI X n : Nat} {q : xrho} {L : xLs} {M : xM} {ow : xOw} {x what : Int32} {o3 : Option xV} (H : RepE T0 X n q L M ow) (B : bds q) : xZ T0 MI 85 0 [some (vr (some X)), some (vi x), some (vi what), o3] [] M = some (some (vi (gletter q x what)), M) := by
  obtain ⟨ad, fh, fp, cl, ll, dl, aa, pk, H⟩ := H
  have H6 := H.2.2.2.2.2.2.1
  have b := B.2.2.1.2
  rw [bq_85_0, (ho_c H.2.1).1, cond_true, c_letterOf H.2.1 H6]
  unfold gletter
  cases hx : ix x (nu q 82 0) with
  | none =>
    simp (decide := true) (disch := omega) only [Option.bind_some, xasI, xasL, xasR, xin_t, cond_true, cond_false, nI_clamp, k_0, k_1, k_2, k_3, k_4, k_5, k_6, k_40, k_60, k_500, k_10000, pk_mul, nI_add, nI_e0, nI_ee, nI_leI, nI_ltI, xbool0, xbool1, xbn0, xbn1, xb_0, xb_1, reduceIte, one0, Option.isNone_none, ne_eq, not_true_eq_false, not_false_eq_true, if_true, if_false, ite_not, Bool.true_and, Bool.and_true, Option.bind_none, Option.isNone_none, bq_85_5, bq_85_10]
    rfl
  | some l =>
    obtain ⟨hl, rfl, -⟩ := ix_some (by omega) hx
    rw [← H6.1] at hl
    obtain ⟨f, v, ask, told, ⟨h1, -, -⟩, ⟨c0, c1, c2, c3, c4, c5, c6, c7, c14, c15⟩, -, -, -, -, h6⟩ := H6.2 l hl
    simp (decide := true) (disch := omega) only [Option.bind_some, xasI, xasL, xasR, xin_t, cond_true, cond_false, nI_clamp, k_0, k_1, k_2, k_3, k_4, k_5, k_6, k_40, k_60, k_500, k_10000, pk_mul, nI_add, nI_e0, nI_ee, nI_leI, nI_ltI, xbool0, xbool1, xbn0, xbn1, xb_0, xb_1, reduceIte, one0, Option.isNone_none, ne_eq, not_true_eq_false, not_false_eq_true, if_true, if_false, ite_not, Bool.true_and, Bool.and_true, List.getElem?_eq_getElem hl, Option.isNone_some, bq_85_5, bq_85_13]
    rcases sw_cases what 10 (by decide) with ⟨h1, h2⟩ | ⟨k, hk, rfl⟩
    · rw [if_pos (show what.toInt < 0 ∨ (10 : Int) < what.toInt from h1), gsw_out (n := 10) (by simp) h2, bq_85_150]
      rfl
    · rw [if_neg (by rw [nI_toInt (by omega)]; omega), nI_toInt (by omega)]
      have hg := gsw_in (d := n9) (r := [q.1 60 l, q.1 61 l, q.1 62 l, q.1 63 l, q.1 64 l, if q.1 75 l = 0 then nI 0 else nI 1, q.1 65 l, q.1 66 l, q.1 67 l, q.1 68 l, q.1 69 l]) (k := 0) (j := k) (by simp) (by simp; omega)
      rw [Nat.zero_add] at hg
      rw [hg]
      match k, hk with
      | 0, _ => show xZ T0 MI 85 72 _ _ _ = _; rw [bq_85_72, Option.bind_some, gI h1 0 rfl, c0]; rfl
      | 1, _ => show xZ T0 MI 85 77 _ _ _ = _; rw [bq_85_77, Option.bind_some, gI h1 2 rfl, c2]; rfl
      | 2, _ => show xZ T0 MI 85 82 _ _ _ = _; rw [bq_85_82, Option.bind_some, gI h1 1 rfl, c1]; rfl
      | 3, _ => show xZ T0 MI 85 87 _ _ _ = _; rw [bq_85_87, Option.bind_some, gI h1 3 rfl, c3]; rfl
      | 4, _ => show xZ T0 MI 85 92 _ _ _ = _; rw [bq_85_92, Option.bind_some, gI h1 4 rfl, c4]; rfl
      | 5, _ =>
        show xZ T0 MI 85 97 _ _ _ = some (some (vi (if q.1 75 l = 0 then nI 0 else nI 1)), _)
        rw [bq_85_97, Option.bind_some, gI h1 14 rfl, c14, Option.bind_some]
        by_cases h0 : q.1 75 l = 0
        · rw [if_pos h0, if_pos h0, bq_85_108, bq_85_109]; rfl
        · rw [if_neg h0, if_neg h0, bq_85_104, bq_85_109]; rfl
      | 6, _ => show xZ T0 MI 85 110 _ _ _ = _; rw [bq_85_110, Option.bind_some, gI h1 15 rfl, c15]; rfl
      | 7, _ => show xZ T0 MI 85 115 _ _ _ = _; rw [bq_85_115, Option.bind_some, gI h1 5 rfl, c5]; rfl
      | 8, _ => show xZ T0 MI 85 120 _ _ _ = _; rw [bq_85_120, Option.bind_some, gI h1 6 rfl, c6]; rfl
      | 9, _ => show xZ T0 MI 85 125 _ _ _ = _; rw [bq_85_125, Option.bind_some, gI h1 7 rfl, c7]; rfl
      | 10, _ =>
        show xZ T0 MI 85 130 _ _ _ = some (some (vi (q.1 69 l)), _)
        rw [bq_85_130, Option.bind_some, gR h1 13 rfl, Option.bind_some]
        rcases h6 with ⟨g1, g2⟩ | ⟨p, g1, g2⟩
        · rw [g1, g2, Option.isNone_none, cond_true, bq_85_137, bq_85_149]
        · rw [g1, Option.isNone_some, cond_false, bq_85_142, Option.bind_some, gR h1 13 rfl, Option.bind_some, g1, Option.bind_some, (isPar_c g2).2.2.1, Option.bind_some, bq_85_149]
theorem P_order {T0 MI X n : Nat} {q : xrho} {L : xLs} {M : xM} {ow : xOw} {x what : Int32} {o3 : Option xV} (H : RepE T0 X n q L M ow) (B : bds q) : xZ T0 MI 86 0 [some (vr (some X)), some (vi x), some (vi what), o3] [] M = some (some (vi (gorder q x what)), M) := by
  obtain ⟨ad, fh, fp, cl, ll, dl, aa, pk, H⟩ := H
  have H6 := H.2.2.2.2.2.2.1
  have H7 := H.2.2.2.2.2.2.2
  have b := B.2.2.2.2.2.2
  obtain ⟨-, -, -, -, -, h0, -⟩ := ho_c H.2.1
  have hl : oList T0 M ow 1 7 (ad 4) dl := H.2.1.choose_spec.1.2.2.2.2.2.2.2.2
  have hb := (oL_c hl).2.2.2
  unfold gorder
  rw [← H7.1, bq_86_0]
  rcases pk_ix x (n := dl.length) (by omega) with e | e | ⟨j, hj, rfl⟩
  · rw [if_pos e, bq_86_15, ix_lo e]; rfl
  · rw [if_neg (nlt_ge (by omega) e), bq_86_4, h0, Option.bind_some, Option.bind_some, (oL_c hl).1, cond_true, oL_size hl]
    simp (decide := true) (disch := omega) only [Option.bind_some, xasI, xasL, xasR, xin_t, cond_true, cond_false, nI_clamp, k_0, k_1, k_2, k_3, k_4, k_5, k_6, k_40, k_60, k_500, k_10000, pk_mul, nI_add, nI_e0, nI_ee, nI_leI, nI_ltI, xbool0, xbool1, xbn0, xbn1, xb_0, xb_1, reduceIte, one0, Option.isNone_none, ne_eq, not_true_eq_false, not_false_eq_true, if_true, if_false, ite_not, Bool.true_and, Bool.and_true]
    rw [bq_86_12, if_neg (Int32.not_lt.mpr e), bq_86_15, ix_hi e]
    rfl
  · rw [if_neg (nlt0 (by omega)), bq_86_4, h0, Option.bind_some, Option.bind_some, (oL_c hl).1, cond_true, oL_size hl]
    simp (decide := true) (disch := omega) only [Option.bind_some, xasI, xasL, xasR, xin_t, cond_true, cond_false, nI_clamp, k_0, k_1, k_2, k_3, k_4, k_5, k_6, k_40, k_60, k_500, k_10000, pk_mul, nI_add, nI_e0, nI_ee, nI_leI, nI_ltI, xbool0, xbool1, xbn0, xbn1, xb_0, xb_1, reduceIte, one0, Option.isNone_none, ne_eq, not_true_eq_false, not_false_eq_true, if_true, if_false, ite_not, Bool.true_and, Bool.and_true]
    obtain ⟨l, hl2, d0, d1, d2, d3, d4, d5⟩ := H7.2 j hj
    obtain ⟨f, v, ask, told, ⟨h1, -, -⟩, ⟨c0, c1, c2, c3, c4, c5, c6, c7, c14, c15⟩, -⟩ := H6.2 l hl2
    rw [bq_86_12, if_pos ((nI_ltI (by omega) (by omega)).mpr hj), bq_86_18, h0, Option.bind_some, Option.bind_some, (oL_c hl).1, cond_true, oL_get (by decide) hl hj, d0]
    simp (decide := true) (disch := omega) only [Option.bind_some, xasI, xasL, xasR, xin_t, cond_true, cond_false, nI_clamp, k_0, k_1, k_2, k_3, k_4, k_5, k_6, k_40, k_60, k_500, k_10000, pk_mul, nI_add, nI_e0, nI_ee, nI_leI, nI_ltI, xbool0, xbool1, xbn0, xbn1, xb_0, xb_1, reduceIte, one0, Option.isNone_none, ne_eq, not_true_eq_false, not_false_eq_true, if_true, if_false, ite_not, Bool.true_and, Bool.and_true]
    rw [bq_86_26]
    dsimp only
    rw [gC h1, cond_true, ix_i hj (by omega)]
    dsimp only
    rcases sw_cases what 4 (by decide) with ⟨h1, h2⟩ | ⟨k, hk, rfl⟩
    · rw [if_pos (show what.toInt < 0 ∨ (4 : Int) < what.toInt from h1), gsw_out (n := 4) (by simp) h2, bq_86_89]
      rfl
    · rw [if_neg (by rw [nI_toInt (by omega)]; omega), nI_toInt (by omega)]
      have hg := gsw_in (d := n9) (r := [q.1 83 j, q.1 84 j, q.1 85 j, q.1 86 j, q.1 87 j]) (k := 0) (j := k) (by simp) (by simp; omega)
      rw [Nat.zero_add] at hg
      rw [hg]
      match k, hk with
      | 0, _ => show xZ T0 MI 86 64 _ _ _ = some (some (vi (q.1 83 j)), _); rw [bq_86_64, Option.bind_some, gI h1 1 rfl, c1, d1]; rfl
      | 1, _ => show xZ T0 MI 86 69 _ _ _ = some (some (vi (q.1 84 j)), _); rw [bq_86_69, Option.bind_some, gI h1 5 rfl, c5, d2]; rfl
      | 2, _ => show xZ T0 MI 86 74 _ _ _ = some (some (vi (q.1 85 j)), _); rw [bq_86_74, Option.bind_some, gI h1 2 rfl, c2, d3]; rfl
      | 3, _ => show xZ T0 MI 86 79 _ _ _ = some (some (vi (q.1 86 j)), _); rw [bq_86_79, Option.bind_some, gI h1 3 rfl, c3, d4]; rfl
      | 4, _ => show xZ T0 MI 86 84 _ _ _ = some (some (vi (q.1 87 j)), _); rw [bq_86_84, Option.bind_some, gI h1 4 rfl, c4, d5]; rfl
