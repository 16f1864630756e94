/-! postOwed, move, undo -/
theorem and_all : ∀ a b c d : Bool, ((nI ((bif a then 0 else 1) + (bif b then 0 else 2) + (bif c then 0 else 4) + (bif d then 0 else 8)) &&& nI 1) = 0 ↔ a = true) ∧ ((nI ((bif a then 0 else 1) + (bif b then 0 else 2) + (bif c then 0 else 4) + (bif d then 0 else 8)) &&& nI 2) = 0 ↔ b = true) ∧ ((nI ((bif a then 0 else 1) + (bif b then 0 else 2) + (bif c then 0 else 4) + (bif d then 0 else 8)) &&& nI 4) = 0 ↔ c = true) ∧ ((nI ((bif a then 0 else 1) + (bif b then 0 else 2) + (bif c then 0 else 4) + (bif d then 0 else 8)) &&& nI 8) = 0 ↔ d = true) := by decide
theorem obit_b (q : xrho) (r k : Nat) : obit q r k = bif decide (q.1 9 (4 * r + k) < 0) then 0 else 2 ^ k := by
  unfold obit
  by_cases h : q.1 9 (4 * r + k) < 0
  · rw [if_pos h, decide_eq_true h]; rfl
  · rw [if_neg h, decide_eq_false h]; rfl
theorem and_bit {q : xrho} {r k : Nat} (hk : k < 4) : (nI (obits q r) &&& nI (2 ^ k)) = 0 ↔ q.1 9 (4 * r + k) < 0 := by
  obtain ⟨h0, h1, h2, h3⟩ := and_all (decide (q.1 9 (4 * r + 0) < 0)) (decide (q.1 9 (4 * r + 1) < 0)) (decide (q.1 9 (4 * r + 2) < 0)) (decide (q.1 9 (4 * r + 3) < 0))
  unfold obits
  rw [obit_b, obit_b, obit_b, obit_b]
  rcases (show k = 0 ∨ k = 1 ∨ k = 2 ∨ k = 3 by omega) with rfl | rfl | rfl | rfl
  · exact h0.trans decide_eq_true_iff
  · exact h1.trans decide_eq_true_iff
  · exact h2.trans decide_eq_true_iff
  · exact h3.trans decide_eq_true_iff
def owR (q : xrho) (r : Nat) : Prop := (∀ k, k < 4 → ¬ q.1 9 (4 * r + k) < 0 → q.1 9 (4 * r + k) = q.1 8 r) ∧ (¬ q.1 7 r < 0 → obits q r = 0)
def kdO (k : Nat) : Int32 := if k = 0 then nI 7 else if k = 1 then nI 9 else if k = 2 then nI 11 else nI 13
theorem R_pif {T0 MI X n r a k : Nat} {ad : Nat → Nat} {fh fp : Nat → Option Nat} {cl ll dl : List Nat} {aa : Nat → Nat} {pk : Nat → Option Nat} {q : xrho} {L : xLs} {M : xM} {ow : xOw} {x4 : Int32} (H : Rep T0 X n ad fh fp cl ll dl aa pk q L M ow) (G : gOK q) (hr : r < 40) (ha : fp r = some a) (hk : k < 4) (h9 : ¬ q.1 9 (4 * r + k) < 0 → ll.length < 1200 ∧ q.1 9 (4 * r + k) = q.1 8 r ∧ x4 = if k = 0 ∨ k = 3 then q.1 11 r else q.1 10 r) : ∃ M' ow' ll' pk', xZ T0 MI 105 0 [some (vr (some X)), some (vr (some a)), some (vi (nI (2 ^ k))), some (vi (kdO k)), some (vi x4)] [] M = some (none, M') ∧ Rep T0 X n ad fh fp cl ll' dl aa pk' (abkO q r k) L M' ow' ∧ gOK (abkO q r k) ∧ psT ll.length ll'.length ow M ow' M' ∧ ll'.length = ll.length + cO q r k := by
  have n82 : ll.length = nu q 82 0 := H.2.2.2.2.2.2.1.1
  have hp := H.2.2.2.1 r hr
  rw [ha] at hp
  obtain ⟨h2, s, gi, ta, uw, ⟨p1, po, pb⟩, sp, -⟩ := hp
  obtain ⟨-, g0, -⟩ := sp_g sp
  unfold abkO cO
  by_cases h : q.1 9 (4 * r + k) < 0
  · rw [if_pos h, if_pos h]
    refine ⟨M, ow, ll, pk, ?_, H, G, psT_rf _ _ _, rfl⟩
    simp (decide := true) (disch := omega) only [bq_105_0, Option.bind_some, xasI, xasL, xasR, xin_t, cond_true, cond_false, nI_clamp, k_0, k_1, k_2, k_3, k_4, k_5, k_6, k_40, k_60, k_500, k_10000, pk_mul, nI_add, nI_e0, nI_ee, nI_leI, nI_ltI, xbool0, xbool1, xbn0, xbn1, xb_0, xb_1, reduceIte, one0, Option.isNone_none, ne_eq, not_true_eq_false, not_false_eq_true, if_true, if_false, ite_not, Bool.true_and, Bool.and_true, gI p1 5 rfl]
    rw [if_pos ((and_bit hk).mpr h), bq_105_29]
  · rw [if_neg h, if_neg h]
    obtain ⟨hl, e9, ex⟩ := h9 h
    have hkd : kdO k ≠ nI 0 ∧ kdO k ≠ nI 1 ∧ kdO k ≠ nI 2 ∧ kdO k ≠ nI 3 := by
      rcases (show k = 0 ∨ k = 1 ∨ k = 2 ∨ k = 3 by omega) with rfl | rfl | rfl | rfl <;> decide
    obtain ⟨M', ow', b, e1, h1, s1⟩ := R_post (T0 := T0) (MI := MI) (kd := kdO k) (fr := nI 0) (to := x4) (rg := nI r) (ep := q.1 8 r) (o6 := none) H G.1 hl G.2.1 G.2.2 hkd
    refine ⟨M', ow', ll ++ [b], va_up pk ll.length none, ?_, ?_, ?_, ?_, by rw [List.length_append]; rfl⟩
    · simp (decide := true) (disch := omega) only [bq_105_0, Option.bind_some, xasI, xasL, xasR, xin_t, cond_true, cond_false, nI_clamp, k_0, k_1, k_2, k_3, k_4, k_5, k_6, k_40, k_60, k_500, k_10000, pk_mul, nI_add, nI_e0, nI_ee, nI_leI, nI_ltI, xbool0, xbool1, xbn0, xbn1, xb_0, xb_1, reduceIte, one0, Option.isNone_none, ne_eq, not_true_eq_false, not_false_eq_true, if_true, if_false, ite_not, Bool.true_and, Bool.and_true, gI p1 5 rfl]
      rw [if_neg (fun e => h ((and_bit hk).mp e))]
      simp (decide := true) (disch := omega) only [bq_105_9, Option.bind_some, xasI, xasL, xasR, xin_t, cond_true, cond_false, nI_clamp, k_0, k_1, k_2, k_3, k_4, k_5, k_6, k_40, k_60, k_500, k_10000, pk_mul, nI_add, nI_e0, nI_ee, nI_leI, nI_ltI, xbool0, xbool1, xbn0, xbn1, xb_0, xb_1, reduceIte, one0, Option.isNone_none, ne_eq, not_true_eq_false, not_false_eq_true, if_true, if_false, ite_not, Bool.true_and, Bool.and_true, gR p1 0 rfl, g0, gI p1 3 rfl, (ho_c H.2.1).1, e1]
      rw [bq_105_28, bq_105_29]
    · unfold gowedL
      rw [← ex, e9, ← n82]
      exact h1
    · unfold gowedL
      exact gOK_new G (by omega)
    · rw [List.length_append]
      exact psT_1 s1 (fun t ht => by rcases ht with h | h <;> omega) (by decide) (by omega)
def abk4 (q : xrho) (r : Nat) : xrho := abkO (abkO (abkO (abkO q r 0) r 1) r 2) r 3
def c4 (q : xrho) (r : Nat) : Nat := cO q r 0 + cO q r 1 + cO q r 2 + cO q r 3
theorem R_powed {T0 MI X n r a : Nat} {ad : Nat → Nat} {fh fp : Nat → Option Nat} {cl ll dl : List Nat} {aa : Nat → Nat} {pk : Nat → Option Nat} {q : xrho} {L : xLs} {M : xM} {ow : xOw} (H : Rep T0 X n ad fh fp cl ll dl aa pk q L M ow) (G : gOK q) (hr : r < 40) (ha : fp r = some a) (hW : owR q r) (hl : ll.length + c4 q r ≤ 1200) : ∃ M' ow' ll' pk', xZ T0 MI 104 0 [some (vr (some X)), some (vr (some a))] [] M = some (none, M') ∧ Rep T0 X n ad fh fp cl ll' dl aa pk' (abk4 q r) L M' ow' ∧ gOK (abk4 q r) ∧ psT ll.length ll'.length ow M ow' M' ∧ ll'.length = ll.length + c4 q r := by
  unfold c4 at hl
  -- what a page shows of giver and taker
  have pgv : ∀ {q' : xrho} {M' : xM} {ow' : xOw} {ll' : List Nat} {pk' : Nat → Option Nat}, Rep T0 X n ad fh fp cl ll' dl aa pk' q' L M' ow' → (∀ f, f < 60 → q'.1 f = q.1 f) → ∃ gi ta, xgetI M' a 7 1 = some gi ∧ xgetI M' a 7 2 = some ta ∧ xcls M' X 11 = true ∧ ∀ k, k < 4 → ¬ q.1 9 (4 * r + k) < 0 → gi = q.1 10 r ∧ ta = q.1 11 r := fun {q' M' ow' ll' pk'} H' he => by
    have hp := H'.2.2.2.1 r hr
    rw [ha] at hp
    obtain ⟨h2, s, gi, ta, uw, ⟨p1, po, pb⟩, sp, u1, u2, u3⟩ := hp
    refine ⟨gi, ta, gI p1 1 rfl, gI p1 2 rfl, (ho_c H'.2.1).1, fun k hk h9 => ?_⟩
    have ob : obits q r ≠ 0 := fun h => h9 (obits_0.mp h k hk)
    have h7 : q.1 7 r < 0 := Decidable.byContradiction (fun h => ob (hW.2 h))
    rw [he 7 (by decide), he 10 (by decide), he 11 (by decide), obits_e (q := q) (fun k i a b => by rw [he k (by omega)])] at u3
    exact u3 h7 ob
  have e0 : ∀ f, f < 60 → (abkO q r 0).1 f = q.1 f := fun f hf => abkO_ne (Or.inl hf) (by omega)
  have e1 : ∀ f, f < 60 → (abkO (abkO q r 0) r 1).1 f = q.1 f := fun f hf => (abkO_ne (Or.inl hf) (by omega)).trans (e0 f hf)
  have e2 : ∀ f, f < 60 → (abkO (abkO (abkO q r 0) r 1) r 2).1 f = q.1 f := fun f hf => (abkO_ne (Or.inl hf) (by omega)).trans (e1 f hf)
  have c1 : cO (abkO q r 0) r 1 = cO q r 1 := cO_f (e0 9 (by decide))
  have c2 : cO (abkO (abkO q r 0) r 1) r 2 = cO q r 2 := cO_f (e1 9 (by decide))
  have c3 : cO (abkO (abkO (abkO q r 0) r 1) r 2) r 3 = cO q r 3 := cO_f (e2 9 (by decide))
  have cpos : ∀ k, ¬ q.1 9 (4 * r + k) < 0 → cO q r k = 1 := fun k h => by unfold cO; rw [if_neg h]
  obtain ⟨gi, ta, a1, a2, a3, a4⟩ := pgv H (fun _ _ => rfl)
  obtain ⟨M1, ow1, ll1, pk1, r1, H1, G1, p1, n1⟩ := R_pif (T0 := T0) (MI := MI) (k := 0) (x4 := ta) H G hr ha (by decide) (fun h => ⟨by have := cpos 0 h; omega, hW.1 0 (by decide) h, by rw [if_pos (Or.inl rfl)]; exact (a4 0 (by decide) h).2⟩)
  obtain ⟨gi1, ta1, b1, b2, b3, b4⟩ := pgv H1 e0
  obtain ⟨M2, ow2, ll2, pk2, r2, H2, G2, p2, n2⟩ := R_pif (T0 := T0) (MI := MI) (k := 1) (x4 := gi1) H1 G1 hr ha (by decide) (fun h => by
    rw [e0 9 (by decide)] at h
    rw [e0 9 (by decide), e0 8 (by decide), e0 10 (by decide), e0 11 (by decide)]
    exact ⟨by have := cpos 1 h; omega, hW.1 1 (by decide) h, by rw [if_neg (by decide)]; exact (b4 1 (by decide) h).1⟩)
  obtain ⟨gi2, ta2, d1, d2, d3, d4⟩ := pgv H2 e1
  obtain ⟨M3, ow3, ll3, pk3, r3, H3, G3, p3, n3⟩ := R_pif (T0 := T0) (MI := MI) (k := 2) (x4 := gi2) H2 G2 hr ha (by decide) (fun h => by
    rw [e1 9 (by decide)] at h
    rw [e1 9 (by decide), e1 8 (by decide), e1 10 (by decide), e1 11 (by decide)]
    exact ⟨by have := cpos 2 h; omega, hW.1 2 (by decide) h, by rw [if_neg (by decide)]; exact (d4 2 (by decide) h).1⟩)
  obtain ⟨gi3, ta3, f1, f2, f3, f4⟩ := pgv H3 e2
  obtain ⟨M4, ow4, ll4, pk4, r4, H4, G4, p4, n4⟩ := R_pif (T0 := T0) (MI := MI) (k := 3) (x4 := ta3) H3 G3 hr ha (by decide) (fun h => by
    rw [e2 9 (by decide)] at h
    rw [e2 9 (by decide), e2 8 (by decide), e2 10 (by decide), e2 11 (by decide)]
    exact ⟨by have := cpos 3 h; omega, hW.1 3 (by decide) h, by rw [if_pos (Or.inr rfl)]; exact (f4 3 (by decide) h).2⟩)
  refine ⟨M4, ow4, ll4, pk4, ?_, H4, G4, psT_tr (psT_tr (psT_tr p1 p2) p3) p4, by unfold c4; omega⟩
  rw [bq_104_0, Option.bind_some, a2, Option.bind_some, a3, cond_true]
  rw [show xZ T0 MI 105 0 [some (vr (some X)), some (vr (some a)), some (vi (Int32.ofInt 1)), some (vi (Int32.ofInt 7)), some (vi ta)] [] M = some (none, M1) from r1]
  simp (decide := true) (disch := omega) only [Option.bind_some, xasI, xasL, xasR, xin_t, cond_true, cond_false, nI_clamp, k_0, k_1, k_2, k_3, k_4, k_5, k_6, k_40, k_60, k_500, k_10000, pk_mul, nI_add, nI_e0, nI_ee, nI_leI, nI_ltI, xbool0, xbool1, xbn0, xbn1, xb_0, xb_1, reduceIte, one0, Option.isNone_none, ne_eq, not_true_eq_false, not_false_eq_true, if_true, if_false, ite_not, Bool.true_and, Bool.and_true]
  rw [bq_104_12, Option.bind_some, b1, Option.bind_some, b3, cond_true]
  rw [show xZ T0 MI 105 0 [some (vr (some X)), some (vr (some a)), some (vi (Int32.ofInt 2)), some (vi (Int32.ofInt 9)), some (vi gi1)] [] M1 = some (none, M2) from r2]
  simp (decide := true) (disch := omega) only [Option.bind_some, xasI, xasL, xasR, xin_t, cond_true, cond_false, nI_clamp, k_0, k_1, k_2, k_3, k_4, k_5, k_6, k_40, k_60, k_500, k_10000, pk_mul, nI_add, nI_e0, nI_ee, nI_leI, nI_ltI, xbool0, xbool1, xbn0, xbn1, xb_0, xb_1, reduceIte, one0, Option.isNone_none, ne_eq, not_true_eq_false, not_false_eq_true, if_true, if_false, ite_not, Bool.true_and, Bool.and_true]
  rw [bq_104_24, Option.bind_some, d1, Option.bind_some, d3, cond_true]
  rw [show xZ T0 MI 105 0 [some (vr (some X)), some (vr (some a)), some (vi (Int32.ofInt 4)), some (vi (Int32.ofInt 11)), some (vi gi2)] [] M2 = some (none, M3) from r3]
  simp (decide := true) (disch := omega) only [Option.bind_some, xasI, xasL, xasR, xin_t, cond_true, cond_false, nI_clamp, k_0, k_1, k_2, k_3, k_4, k_5, k_6, k_40, k_60, k_500, k_10000, pk_mul, nI_add, nI_e0, nI_ee, nI_leI, nI_ltI, xbool0, xbool1, xbn0, xbn1, xb_0, xb_1, reduceIte, one0, Option.isNone_none, ne_eq, not_true_eq_false, not_false_eq_true, if_true, if_false, ite_not, Bool.true_and, Bool.and_true]
  rw [bq_104_36, Option.bind_some, f2, Option.bind_some, f3, cond_true]
  rw [show xZ T0 MI 105 0 [some (vr (some X)), some (vr (some a)), some (vi (Int32.ofInt 8)), some (vi (Int32.ofInt 13)), some (vi ta3)] [] M3 = some (none, M4) from r4]
  simp (decide := true) (disch := omega) only [Option.bind_some, xasI, xasL, xasR, xin_t, cond_true, cond_false, nI_clamp, k_0, k_1, k_2, k_3, k_4, k_5, k_6, k_40, k_60, k_500, k_10000, pk_mul, nI_add, nI_e0, nI_ee, nI_leI, nI_ltI, xbool0, xbool1, xbn0, xbn1, xb_0, xb_1, reduceIte, one0, Option.isNone_none, ne_eq, not_true_eq_false, not_false_eq_true, if_true, if_false, ite_not, Bool.true_and, Bool.and_true]
  rw [bq_104_49]
theorem P_move {T0 MI X n : Nat} {q : xrho} {L : xLs} {M : xM} {ow : xOw} {x y : Int32} {o3 : Option xV} (H : RepE T0 X n q L M ow) (G : gOK q) (K : bkOK q) : ∃ M' ow', xZ T0 MI 71 0 [some (vr (some X)), some (vi x), some (vi y), o3] [] M = some (some (vi (gmove q x y).1), M') ∧ RepE T0 X n (gmove q x y).2 L M' ow' ∧ stp ext 12 (2 * nu q 82 0 + 201) ow M ow' M' := by
  have HE := H
  have B := G.1
  obtain ⟨ad, fh, fp, cl, ll, dl, aa, pk, H⟩ := H
  have n82 : ll.length = nu q 82 0 := H.2.2.2.2.2.2.1.1
  have hX := (ho_c H.2.1).1
  rw [bq_71_0, hX, cond_true, c_pageOf H.2.1, pg_of H K]
  unfold gmove
  cases hx : grng q x with
  | none =>
    obtain ⟨M', e, h, s⟩ := P_ref (MI := MI) (i := 1) (x := Int32.ofInt (-1)) HE B (by decide) rfl
    refine ⟨M', ow, ?_, h, s⟩
    simp (decide := true) (disch := omega) only [Option.bind_some, xasI, xasL, xasR, xin_t, cond_true, cond_false, nI_clamp, k_0, k_1, k_2, k_3, k_4, k_5, k_6, k_40, k_60, k_500, k_10000, pk_mul, nI_add, nI_e0, nI_ee, nI_leI, nI_ltI, xbool0, xbool1, xbn0, xbn1, xb_0, xb_1, reduceIte, one0, Option.isNone_none, ne_eq, not_true_eq_false, not_false_eq_true, if_true, if_false, ite_not, Bool.true_and, Bool.and_true, bq_71_5, bq_71_18, hX, e, bq_71_23]
  | some r =>
    obtain ⟨hr, rfl, h2, hrn, a, ha, hp⟩ := pg_some H K hx
    have h6 := K.2.2.2.2.2.1 r hr
    have fr := x_isFree (T0 := T0) (MI := MI) (o2 := none) (o3 := none) H.2.1 H.2.2.1 hp hr h6
    obtain ⟨-, s, gi, ta, uw, pg, sp, u1, u2, -⟩ := hp
    have p1 := pg.1
    obtain ⟨-, g0, g1, g2, g3, g4⟩ := sp_g sp
    simp (decide := true) (disch := omega) only [Option.bind_some, xasI, xasL, xasR, xin_t, cond_true, cond_false, nI_clamp, k_0, k_1, k_2, k_3, k_4, k_5, k_6, k_40, k_60, k_500, k_10000, pk_mul, nI_add, nI_e0, nI_ee, nI_leI, nI_ltI, xbool0, xbool1, xbn0, xbn1, xb_0, xb_1, reduceIte, one0, Option.isNone_none, ne_eq, not_true_eq_false, not_false_eq_true, if_true, if_false, ite_not, Bool.true_and, Bool.and_true, ha, Option.isNone_some, bq_71_5, bq_71_10, hX, c_hostOf H.2.1]
    cases hy : ix y 6 with
    | none =>
      obtain ⟨M', e, h, s⟩ := P_ref (MI := MI) (i := 1) (x := Int32.ofInt (-1)) HE B (by decide) rfl
      refine ⟨M', ow, ?_, h, s⟩
      simp (decide := true) (disch := omega) only [Option.bind_some, xasI, xasL, xasR, xin_t, cond_true, cond_false, nI_clamp, k_0, k_1, k_2, k_3, k_4, k_5, k_6, k_40, k_60, k_500, k_10000, pk_mul, nI_add, nI_e0, nI_ee, nI_leI, nI_ltI, xbool0, xbool1, xbn0, xbn1, xb_0, xb_1, reduceIte, one0, Option.isNone_none, ne_eq, not_true_eq_false, not_false_eq_true, if_true, if_false, ite_not, Bool.true_and, Bool.and_true, Option.bind_none, Option.isNone_none, bq_71_15, bq_71_18, hX, e, bq_71_23]
    | some h =>
      obtain ⟨hh, rfl, -⟩ := ix_some (by decide) hy
      obtain ⟨b, f, hb, -⟩ := H.2.2.1 h hh
      have iu := c_isUp (T0 := T0) (MI := MI) (h := 0) (o2 := none) H.2.1 H.2.2.1 (by decide)
      simp (decide := true) (disch := omega) only [Option.bind_some, xasI, xasL, xasR, xin_t, cond_true, cond_false, nI_clamp, k_0, k_1, k_2, k_3, k_4, k_5, k_6, k_40, k_60, k_500, k_10000, pk_mul, nI_add, nI_e0, nI_ee, nI_leI, nI_ltI, xbool0, xbool1, xbn0, xbn1, xb_0, xb_1, reduceIte, one0, Option.isNone_none, ne_eq, not_true_eq_false, not_false_eq_true, if_true, if_false, ite_not, Bool.true_and, Bool.and_true, hb, Option.isNone_some, bq_71_15, bq_71_24, hX, iu]
      by_cases hu : q.1 0 0 = 0
      · obtain ⟨M', e, h, s⟩ := P_ref (MI := MI) (i := 4) (x := Int32.ofInt (-4)) HE B (by decide) rfl
        rw [tI_f (fun h => h hu), if_pos hu]
        refine ⟨M', ow, ?_, h, s⟩
        simp (decide := true) (disch := omega) only [Option.bind_some, xasI, xasL, xasR, xin_t, cond_true, cond_false, nI_clamp, k_0, k_1, k_2, k_3, k_4, k_5, k_6, k_40, k_60, k_500, k_10000, pk_mul, nI_add, nI_e0, nI_ee, nI_leI, nI_ltI, xbool0, xbool1, xbn0, xbn1, xb_0, xb_1, reduceIte, one0, Option.isNone_none, ne_eq, not_true_eq_false, not_false_eq_true, if_true, if_false, ite_not, Bool.true_and, Bool.and_true, bq_71_29, bq_71_32, hX, e, bq_71_38]
      · rw [tI_t hu, if_neg hu]
        simp (decide := true) (disch := omega) only [Option.bind_some, xasI, xasL, xasR, xin_t, cond_true, cond_false, nI_clamp, k_0, k_1, k_2, k_3, k_4, k_5, k_6, k_40, k_60, k_500, k_10000, pk_mul, nI_add, nI_e0, nI_ee, nI_leI, nI_ltI, xbool0, xbool1, xbn0, xbn1, xb_0, xb_1, reduceIte, one0, Option.isNone_none, ne_eq, not_true_eq_false, not_false_eq_true, if_true, if_false, ite_not, Bool.true_and, Bool.and_true, bq_71_29, bq_71_39, hX, fr]
        by_cases hf : gfree q r (nu q 6 r)
        · rw [tI_t hf]
          rw [h6.1] at g4
          simp (decide := true) (disch := omega) only [Option.bind_some, xasI, xasL, xasR, xin_t, cond_true, cond_false, nI_clamp, k_0, k_1, k_2, k_3, k_4, k_5, k_6, k_40, k_60, k_500, k_10000, pk_mul, nI_add, nI_e0, nI_ee, nI_leI, nI_ltI, xbool0, xbool1, xbn0, xbn1, xb_0, xb_1, reduceIte, one0, Option.isNone_none, ne_eq, not_true_eq_false, not_false_eq_true, if_true, if_false, ite_not, Bool.true_and, Bool.and_true, bq_71_44, bq_71_47, gR p1 0 rfl, g4]
          have h65 := h6.2
          by_cases hh6 : nu q 6 r = h
          · obtain ⟨M', e, hR, s⟩ := P_ref (MI := MI) (i := 5) (x := Int32.ofInt (-5)) HE B (by decide) rfl
            rw [if_pos (show nI (nu q 6 r) = nI h by rw [hh6]), if_pos (Or.inr hh6)]
            refine ⟨M', ow, ?_, hR, s⟩
            simp (decide := true) (disch := omega) only [Option.bind_some, xasI, xasL, xasR, xin_t, cond_true, cond_false, nI_clamp, k_0, k_1, k_2, k_3, k_4, k_5, k_6, k_40, k_60, k_500, k_10000, pk_mul, nI_add, nI_e0, nI_ee, nI_leI, nI_ltI, xbool0, xbool1, xbn0, xbn1, xb_0, xb_1, reduceIte, one0, Option.isNone_none, ne_eq, not_true_eq_false, not_false_eq_true, if_true, if_false, ite_not, Bool.true_and, Bool.and_true, bq_71_58, hX, e, bq_71_64]
          · have er := c_hasRoom (T0 := T0) (MI := MI) (k := 1) H.2.1 (by decide)
            rw [if_neg (show ¬ nI (nu q 6 r) = nI h by rw [nI_ee (by omega) (by omega)]; exact hh6), if_neg (fun e => e.elim id hh6)]
            simp (decide := true) (disch := omega) only [Option.bind_some, xasI, xasL, xasR, xin_t, cond_true, cond_false, nI_clamp, k_0, k_1, k_2, k_3, k_4, k_5, k_6, k_40, k_60, k_500, k_10000, pk_mul, nI_add, nI_e0, nI_ee, nI_leI, nI_ltI, xbool0, xbool1, xbn0, xbn1, xb_0, xb_1, reduceIte, one0, Option.isNone_none, ne_eq, not_true_eq_false, not_false_eq_true, if_true, if_false, ite_not, Bool.true_and, Bool.and_true, bq_71_65, hX, er]
            by_cases h82 : nu q 82 0 = 1200
            · obtain ⟨M', e, h, s⟩ := P_ref (MI := MI) (i := 6) (x := Int32.ofInt (-6)) HE B (by decide) rfl
              rw [if_pos h82, tI_f (by omega)]
              refine ⟨M', ow, ?_, h, s⟩
              simp (decide := true) (disch := omega) only [Option.bind_some, xasI, xasL, xasR, xin_t, cond_true, cond_false, nI_clamp, k_0, k_1, k_2, k_3, k_4, k_5, k_6, k_40, k_60, k_500, k_10000, pk_mul, nI_add, nI_e0, nI_ee, nI_leI, nI_ltI, xbool0, xbool1, xbn0, xbn1, xb_0, xb_1, reduceIte, one0, Option.isNone_none, ne_eq, not_true_eq_false, not_false_eq_true, if_true, if_false, ite_not, Bool.true_and, Bool.and_true, bq_71_70, bq_71_73, hX, e, bq_71_79]
            · have b82 := B.2.2.1.2
              rw [if_neg h82, tI_t (by omega)]
              obtain ⟨M1, e1, pg1, s1⟩ := pg_start (T0 := T0) (MI := MI) (x := nI h) pg sp
              have nh : ¬ nI h < 0 := nlt0 (by omega)
              have H1 : Rep T0 X n ad fh fp cl ll dl aa pk (rup (rup q 7 r (nI h)) 8 r (q.1 5 r + nI 1)) L M1 ow := by
                refine Rep_pg H B hr s1 ?_ (fun k i a => by rw [rup_ne _ _ _ _ (by omega), rup_ne _ _ _ _ (by omega)]) (fun k i a b => by rw [rup_r, if_neg (by omega), rup_r, if_neg (by omega)]) (fun i a => by rw [rup_ne _ _ _ _ (by decide), rup_ne _ _ _ _ (by decide)]) (fun _ _ => rfl)
                rw [ha]
                show (rup (rup q 7 r (nI h)) 8 r (q.1 5 r + nI 1)).1 2 r = 1 ∧ _
                rw [rup_at, obits_e (q := q) (fun k i a b => by rw [rup_ne _ _ _ _ (by omega), rup_ne _ _ _ _ (by omega)]), rup_ne _ _ _ _ (k' := 2) (by decide), rup_ne _ _ _ _ (k' := 3) (by decide), rup_ne _ _ _ _ (k' := 4) (by decide), rup_ne _ _ _ _ (k' := 5) (by decide), rup_ne _ _ _ _ (k' := 6) (by decide), rup_ne _ _ _ _ (k' := 7) (by decide), rup_ne _ _ _ _ (k' := 2) (by decide), rup_ne _ _ _ _ (k' := 3) (by decide), rup_ne _ _ _ _ (k' := 4) (by decide), rup_ne _ _ _ _ (k' := 5) (by decide), rup_ne _ _ _ _ (k' := 6) (by decide), rup_at]
                exact ⟨h2, s, _, _, _, pg1, isSpot_f sp s1 (fun t ht => by omega), fun h => absurd h nh, fun _ => ⟨rfl, rfl, rfl⟩, fun h => absurd h nh⟩
              have G1 : gOK (rup (rup q 7 r (nI h)) 8 r (q.1 5 r + nI 1)) := gOK_e G (fun k i hk => by rw [rup_ne _ _ _ _ (by omega), rup_ne _ _ _ _ (by omega)])
              obtain ⟨M2, ow2, bb, e2, H2, s2⟩ := R_pbegin (T0 := T0) (MI := MI) (o2 := none) H1 G1 (by omega) hr ha (by rw [rup_ne _ _ _ _ (by decide), rup_at]; exact nh)
              have hp2 := H2.2.2.2.1 r hr
              rw [ha] at hp2
              obtain ⟨-, s', gi', ta', uw', ⟨p2, -, -⟩, -⟩ := hp2
              have q8 : (gbeg (rup (rup q 7 r (nI h)) 8 r (q.1 5 r + nI 1)) ll.length r).1 8 r = q.1 5 r + nI 1 := by
                rw [gbeg_nef (Or.inl (by decide)) (by decide) (by decide), rup_at]
              refine ⟨M2, ow2, ?_, ⟨_, _, _, _, _, _, _, _, by rw [← n82]; exact H2⟩, ?_⟩
              · simp (decide := true) (disch := omega) only [Option.bind_some, xasI, xasL, xasR, xin_t, cond_true, cond_false, nI_clamp, k_0, k_1, k_2, k_3, k_4, k_5, k_6, k_40, k_60, k_500, k_10000, pk_mul, nI_add, nI_e0, nI_ee, nI_leI, nI_ltI, xbool0, xbool1, xbn0, xbn1, xb_0, xb_1, reduceIte, one0, Option.isNone_none, ne_eq, not_true_eq_false, not_false_eq_true, if_true, if_false, ite_not, Bool.true_and, Bool.and_true, bq_71_70, bq_71_80, gC p1, e1, bq_71_85, (ho_c H1.2.1).1, e2, bq_71_90, gI p2 3 rfl, q8]
              · have := phi_s ll.length
                exact stp_w (stp_tr (ext_of s1 (fun t ht => by omega) (Nat.le_refl _) (Nat.le_refl _)) s2.2.2) (fun _ h => h) (by omega) (by omega)
        · obtain ⟨M', e, h, s⟩ := P_ref (MI := MI) (i := 5) (x := Int32.ofInt (-5)) HE B (by decide) rfl
          rw [tI_f hf, if_pos (Or.inl rfl)]
          refine ⟨M', ow, ?_, h, s⟩
          simp (decide := true) (disch := omega) only [Option.bind_some, xasI, xasL, xasR, xin_t, cond_true, cond_false, nI_clamp, k_0, k_1, k_2, k_3, k_4, k_5, k_6, k_40, k_60, k_500, k_10000, pk_mul, nI_add, nI_e0, nI_ee, nI_leI, nI_ltI, xbool0, xbool1, xbn0, xbn1, xb_0, xb_1, reduceIte, one0, Option.isNone_none, ne_eq, not_true_eq_false, not_false_eq_true, if_true, if_false, ite_not, Bool.true_and, Bool.and_true, bq_71_44, bq_71_58, hX, e, bq_71_64]
def mvOK (q : xrho) : Prop := ∀ r, r < 40 → q.1 2 r = 1 → ¬ q.1 7 r < 0 → obits q r = 0 ∧ ¬ q.1 8 r < 0
theorem gundoq_9 (q : xrho) (r i : Nat) : (gundoq q r).1 9 i = if i = 4 * r + 3 then q.1 8 r else if i = 4 * r + 2 then q.1 8 r else q.1 9 i := by
  unfold gundoq
  rw [rup_ne _ _ _ _ (by decide), rup_ne _ _ _ _ (by decide), rup_ne _ _ _ _ (by decide), rup_r]
  simp only [true_and]
  by_cases e : i = 4 * r + 3
  · rw [if_pos e, if_pos e]
  · rw [if_neg e, if_neg e, rup_r]
    simp only [true_and]
    by_cases e2 : i = 4 * r + 2
    · rw [if_pos e2, if_pos e2]
    · rw [if_neg e2, if_neg e2, rup_ne _ _ _ _ (by decide), rup_ne _ _ _ _ (by decide)]
theorem gundoq_o (q : xrho) (r : Nat) {k i : Nat} (hk : k ≠ 5 ∧ k ≠ 7 ∧ k ≠ 9 ∧ k ≠ 10 ∧ k ≠ 11 ∨ k ≠ 9 ∧ i ≠ r) (h14 : k ≠ 14) : (gundoq q r).1 k i = q.1 k i := by
  unfold gundoq
  rw [rup_ne _ _ _ _ h14, rup_r, if_neg (by omega), rup_r, if_neg (by omega), rup_ne _ _ _ _ (by omega), rup_ne _ _ _ _ (by omega), rup_r, if_neg (by omega), rup_r, if_neg (by omega)]
theorem gundoq_at (q : xrho) (r : Nat) : (gundoq q r).1 5 r = q.1 8 r + nI 1 ∧ (gundoq q r).1 7 r = Int32.ofInt (-1) ∧ (gundoq q r).1 10 r = q.1 6 r ∧ (gundoq q r).1 11 r = q.1 7 r ∧ (gundoq q r).1 14 0 = q.1 14 0 + nI 1 := by
  unfold gundoq
  simp (decide := true) only [rup_r, and_true, and_false, false_and, true_and, reduceIte, and_self]
theorem gundoq_9v {q : xrho} {r : Nat} (h : obits q r = 0) (h8 : ¬ q.1 8 r < 0) : (gundoq q r).1 9 (4 * r + 0) < 0 ∧ (gundoq q r).1 9 (4 * r + 1) < 0 ∧ ¬ (gundoq q r).1 9 (4 * r + 2) < 0 ∧ ¬ (gundoq q r).1 9 (4 * r + 3) < 0 := by
  have h0 := obits_0.mp h
  refine ⟨?_, ?_, ?_, ?_⟩
  · rw [gundoq_9, if_neg (by omega), if_neg (by omega)]; exact h0 0 (by decide)
  · rw [gundoq_9, if_neg (by omega), if_neg (by omega)]; exact h0 1 (by decide)
  · rw [gundoq_9, if_neg (by omega), if_pos rfl]; exact h8
  · rw [gundoq_9, if_pos rfl]; exact h8
theorem obits_u {q : xrho} {r : Nat} (h : obits q r = 0) (h8 : ¬ q.1 8 r < 0) : obits (gundoq q r) r = 12 := by
  obtain ⟨b0, b1, b2, b3⟩ := gundoq_9v h h8
  unfold obits obit
  rw [if_pos b0, if_pos b1, if_neg b2, if_neg b3]
theorem abk4_u {q : xrho} {r : Nat} (h : obits q r = 0) (h8 : ¬ q.1 8 r < 0) (h82 : isN q 82 0 1198) : abk4 (gundoq q r) r = gowedL (gowedL (gundoq q r) r 2 (nu q 82 0)) r 3 (nu q 82 0 + 1) := by
  obtain ⟨b0, b1, b2, b3⟩ := gundoq_9v h h8
  have n82 : nu (gundoq q r) 82 0 = nu q 82 0 := nu_e (gundoq_o _ _ (Or.inl (by decide)) (by decide))
  have a0 : abkO (gundoq q r) r 0 = gundoq q r := by unfold abkO; rw [if_pos b0]
  have a1 : abkO (gundoq q r) r 1 = gundoq q r := by unfold abkO; rw [if_pos b1]
  have a2 : abkO (gundoq q r) r 2 = gowedL (gundoq q r) r 2 (nu q 82 0) := by unfold abkO; rw [if_neg b2, n82]
  unfold abk4
  rw [a0, a1, a2]
  unfold abkO
  rw [gowedL_nef (Or.inl (by decide)) (by decide), if_neg b3]
  congr 1
  unfold nu
  rw [gowedL_82f, nI_clamp (by have := h82.2; unfold nu at this; omega)]
theorem R_undo {T0 MI X n r a : Nat} {ad : Nat → Nat} {fh fp : Nat → Option Nat} {cl ll dl : List Nat} {aa : Nat → Nat} {pk : Nat → Option Nat} {q : xrho} {L : xLs} {M : xM} {ow : xOw} {o1 : Option xV} (H : Rep T0 X n ad fh fp cl ll dl aa pk q L M ow) (G : gOK q) (hr : r < 40) (ha : fp r = some a) (h7 : ¬ q.1 7 r < 0) (ob : obits q r = 0) (h8 : ¬ q.1 8 r < 0) (h82 : ll.length + 2 ≤ 1200) : ∃ M' ow', xZ T0 MI 72 60 [some (vr (some X)), o1, some (vr (some a))] [] M = some (some (vi (q.1 8 r + nI 1)), M') ∧ RepE T0 X n (gowedL (gowedL (gundoq q r) r 2 (nu q 82 0)) r 3 (nu q 82 0 + 1)) L M' ow' ∧ stp ext 25 (4 * nu q 82 0 + 409) ow M ow' M' := by
  have B := G.1
  have n82 : ll.length = nu q 82 0 := H.2.2.2.2.2.2.1.1
  have hp := H.2.2.2.1 r hr
  rw [ha] at hp
  obtain ⟨h2, s, gi, ta, uw, pg, sp, u1, u2, -⟩ := hp
  have p1 := pg.1
  obtain ⟨v1, v2, v3⟩ := u2 h7
  obtain ⟨M1, ow1, e1, pg1, sp1, s1⟩ := pg_undo (T0 := T0) (MI := MI) pg sp hr
  obtain ⟨q5, q7, q10, q11, q14⟩ := gundoq_at q r
  have FH1 := FH_f H.2.1 s1 (fun t a => by omega) (fun t a => by omega) (qe_rf _ _ _) (qe_rf _ _ _)
  obtain ⟨g, ho, hg⟩ := FH1
  obtain ⟨M2, e2, ho2, s2⟩ := oHo_w (mk' := q.1 12 0) (ov' := q.1 13 0) (un' := q.1 14 0 + nI 1) ho 8 (vi (q.1 14 0 + nI 1)) (by decide) rfl
  have s12 : stp (fun t => t.1 ≠ 1 ∧ t.1 ≠ 400 + r) 1 5 ow M ow1 M2 := stp_tr (stp_w s1 (fun t ht => by omega) (Nat.le_refl _) (Nat.le_refl _)) (stp_w s2 (fun t ht e => ht.1 (by rw [e])) (Nat.le_refl _) (Nat.le_refl _))
  have sO : stp (fun t => t.1 ≠ 1) 0 0 ow1 M1 ow1 M2 := stp_w s2 (fun t ht e => ht (by rw [e])) (Nat.le_refl _) (Nat.le_refl _)
  have uo : ∀ k i, (k ≠ 5 ∧ k ≠ 7 ∧ k ≠ 9 ∧ k ≠ 10 ∧ k ≠ 11 ∨ k ≠ 9 ∧ i ≠ r) → k ≠ 14 → (gundoq q r).1 k i = q.1 k i := fun k i => gundoq_o q r
  have H1 : Rep T0 X n ad fh fp cl ll dl aa pk (gundoq q r) L M2 ow1 := by
    refine Rep_bk H B (stp_w s12 (fun t ht => by omega) (Nat.le_refl _) (Nat.le_refl _)) ⟨g, ?_, fun i hi => by rw [hg i hi, uo 1 i (by omega) (by omega)]⟩ (fun t ht => ?_) (fun k i a => uo k i (by omega) (by omega)) (fun _ _ => rfl)
    · rw [q14, uo 12 0 (by omega) (by omega), uo 13 0 (by omega) (by omega)]
      exact ho2
    · by_cases et : t = r
      · subst et
        rw [ha]
        show (gundoq q t).1 2 t = 1 ∧ _
        rw [obits_u ob h8, q5, q7, q10, q11, uo 2 t (by omega) (by omega), uo 3 t (by omega) (by omega), uo 4 t (by omega) (by omega), uo 6 t (by omega) (by omega), uo 8 t (by omega) (by omega)]
        have pg2 : oPg M2 ow1 t a M.1 gi ta (q.1 8 t) 0 (nI 12) := by
          obtain ⟨a1, a2, a3⟩ := pg1
          have c := s2.2.2.2 a a3
          exact ⟨(c.2 (by rw [a2]; simp; omega)).trans a1, c.1.trans a2, by have := s2.1; omega⟩
        exact ⟨h2, M.1, gi, ta, 0, pg2, by rw [← v2]; exact isSpot_f sp1 sO (fun t ht => by omega), fun _ => rfl, fun h => absurd (show Int32.ofInt (-1) < 0 by decide) h, fun _ _ => ⟨v2, v3⟩⟩
      · refine rPage_f (H.2.2.2.1 t ht) s12 (fun t a => by omega) (fun t a => by omega) (fun k a b c => uo k t (by omega) (by omega)) ?_
        have u9 : ∀ k, k < 4 → (gundoq q r).1 9 (4 * t + k) = q.1 9 (4 * t + k) := fun k hk => by rw [gundoq_9, if_neg (by omega), if_neg (by omega)]
        unfold obits obit
        rw [u9 0 (by decide), u9 1 (by decide), u9 2 (by decide), u9 3 (by decide)]
  have G1 : gOK (gundoq q r) := gOK_e G (fun k i hk => uo k i (by omega) (by omega))
  have W1 : owR (gundoq q r) r := by
    refine ⟨fun k hk h9 => ?_, fun h => absurd (by rw [q7]; decide) h⟩
    have hz := obits_0.mp ob k hk
    rw [gundoq_9] at h9 ⊢
    rw [uo 8 r (by omega) (by omega)]
    by_cases e3 : 4 * r + k = 4 * r + 3
    · rw [if_pos e3]
    · rw [if_neg e3] at h9 ⊢
      by_cases e2 : 4 * r + k = 4 * r + 2
      · rw [if_pos e2]
      · rw [if_neg e2] at h9
        exact absurd hz h9
  have C1 : c4 (gundoq q r) r = 2 := by
    obtain ⟨b0, b1, b2, b3⟩ := gundoq_9v ob h8
    unfold c4 cO
    rw [if_pos b0, if_pos b1, if_neg b2, if_neg b3]
  obtain ⟨M3, ow3, ll3, pk3, e3, H3, G3, s3, n3⟩ := R_powed (T0 := T0) (MI := MI) H1 G1 hr ha W1 (by omega)
  have q34 := abk4_u ob h8 ⟨B.2.2.1.1, by omega⟩
  have hp3 := H3.2.2.2.1 r hr
  rw [ha] at hp3
  obtain ⟨-, s', gi', ta', uw', ⟨p3, -, -⟩, sp3, -⟩ := hp3
  have q53 : (abk4 (gundoq q r) r).1 5 r = q.1 8 r + nI 1 := by
    unfold abk4
    rw [abkO_ne (Or.inl (by decide)) (by decide), abkO_ne (Or.inl (by decide)) (by decide), abkO_ne (Or.inl (by decide)) (by decide), abkO_ne (Or.inl (by decide)) (by decide), q5]
  have g3 := (sp_g sp3).2.2.2.2.1
  rw [q53] at g3
  refine ⟨M3, ow3, ?_, ?_, ?_⟩
  · simp (decide := true) (disch := omega) only [Option.bind_some, xasI, xasL, xasR, xin_t, cond_true, cond_false, nI_clamp, k_0, k_1, k_2, k_3, k_4, k_5, k_6, k_40, k_60, k_500, k_10000, pk_mul, nI_add, nI_e0, nI_ee, nI_leI, nI_ltI, xbool0, xbool1, xbn0, xbn1, xb_0, xb_1, reduceIte, one0, Option.isNone_none, ne_eq, not_true_eq_false, not_false_eq_true, if_true, if_false, ite_not, Bool.true_and, Bool.and_true, bq_72_60, gC p1, e1]
    rw [bq_72_64, (ho_c ⟨g, ho, hg⟩).2.2.2.2.2.2.2.2.2, Option.bind_some, k_1, e2, Option.bind_some, (ho_c H1.2.1).1, cond_true, e3]
    simp (decide := true) (disch := omega) only [Option.bind_some, xasI, xasL, xasR, xin_t, cond_true, cond_false, nI_clamp, k_0, k_1, k_2, k_3, k_4, k_5, k_6, k_40, k_60, k_500, k_10000, pk_mul, nI_add, nI_e0, nI_ee, nI_leI, nI_ltI, xbool0, xbool1, xbn0, xbn1, xb_0, xb_1, reduceIte, one0, Option.isNone_none, ne_eq, not_true_eq_false, not_false_eq_true, if_true, if_false, ite_not, Bool.true_and, Bool.and_true, bq_72_79, gR p3 0 rfl, g3]
  · rw [← q34]
    exact ⟨_, _, _, _, _, _, _, _, H3⟩
  · have f1 := phi_s ll.length
    have f2 := phi_s (ll.length + 1)
    have f3 : phi ll3.length = phi (ll.length + 1 + 1) := by rw [n3, C1]
    exact stp_w (stp_tr (ext_of s12 (fun t ht => by rcases ht with h | h <;> omega) (Nat.le_refl _) (Nat.le_refl _)) s3.2.2) (fun _ h => h) (by omega) (by omega)
theorem P_undo {T0 MI X n : Nat} {q : xrho} {L : xLs} {M : xM} {ow : xOw} {x : Int32} {o2 : Option xV} (H : RepE T0 X n q L M ow) (G : gOK q) (K : bkOK q) (hM : mvOK q) : ∃ M' ow', xZ T0 MI 72 0 [some (vr (some X)), some (vi x), o2] [] M = some (some (vi (gundo q x).1), M') ∧ RepE T0 X n (gundo q x).2 L M' ow' ∧ stp ext 25 (4 * nu q 82 0 + 409) ow M ow' M' := by
  have HE := H
  have B := G.1
  obtain ⟨ad, fh, fp, cl, ll, dl, aa, pk, H⟩ := H
  have n82 : ll.length = nu q 82 0 := H.2.2.2.2.2.2.1.1
  have hX := (ho_c H.2.1).1
  rw [bq_72_0, hX, cond_true, c_pageOf H.2.1, pg_of H K]
  unfold gundo
  cases hx : grng q x with
  | none =>
    obtain ⟨M', e, h, s⟩ := P_ref (MI := MI) (i := 1) (x := Int32.ofInt (-1)) HE B (by decide) rfl
    refine ⟨M', ow, ?_, h, s⟩
    simp (decide := true) (disch := omega) only [Option.bind_some, xasI, xasL, xasR, xin_t, cond_true, cond_false, nI_clamp, k_0, k_1, k_2, k_3, k_4, k_5, k_6, k_40, k_60, k_500, k_10000, pk_mul, nI_add, nI_e0, nI_ee, nI_leI, nI_ltI, xbool0, xbool1, xbn0, xbn1, xb_0, xb_1, reduceIte, one0, Option.isNone_none, ne_eq, not_true_eq_false, not_false_eq_true, if_true, if_false, ite_not, Bool.true_and, Bool.and_true, bq_72_5, bq_72_10, hX, e, bq_72_15]
  | some r =>
    obtain ⟨hr, rfl, h2, hrn, a, ha, hp⟩ := pg_some H K hx
    obtain ⟨-, s, gi, ta, uw, pg, sp, u1, u2, -⟩ := hp
    have p1 := pg.1
    have iu := c_isUp (T0 := T0) (MI := MI) (h := 0) (o2 := none) H.2.1 H.2.2.1 (by decide)
    simp (decide := true) (disch := omega) only [Option.bind_some, xasI, xasL, xasR, xin_t, cond_true, cond_false, nI_clamp, k_0, k_1, k_2, k_3, k_4, k_5, k_6, k_40, k_60, k_500, k_10000, pk_mul, nI_add, nI_e0, nI_ee, nI_leI, nI_ltI, xbool0, xbool1, xbn0, xbn1, xb_0, xb_1, reduceIte, one0, Option.isNone_none, ne_eq, not_true_eq_false, not_false_eq_true, if_true, if_false, ite_not, Bool.true_and, Bool.and_true, ha, Option.isNone_some, bq_72_5, bq_72_16, hX, iu]
    by_cases hu : q.1 0 0 = 0
    · obtain ⟨M', e, h, s⟩ := P_ref (MI := MI) (i := 4) (x := Int32.ofInt (-4)) HE B (by decide) rfl
      rw [tI_f (fun h => h hu), if_pos hu]
      refine ⟨M', ow, ?_, h, s⟩
      simp (decide := true) (disch := omega) only [Option.bind_some, xasI, xasL, xasR, xin_t, cond_true, cond_false, nI_clamp, k_0, k_1, k_2, k_3, k_4, k_5, k_6, k_40, k_60, k_500, k_10000, pk_mul, nI_add, nI_e0, nI_ee, nI_leI, nI_ltI, xbool0, xbool1, xbn0, xbn1, xb_0, xb_1, reduceIte, one0, Option.isNone_none, ne_eq, not_true_eq_false, not_false_eq_true, if_true, if_false, ite_not, Bool.true_and, Bool.and_true, bq_72_21, bq_72_24, hX, e, bq_72_30]
    · rw [tI_t hu, if_neg hu]
      simp (decide := true) (disch := omega) only [Option.bind_some, xasI, xasL, xasR, xin_t, cond_true, cond_false, nI_clamp, k_0, k_1, k_2, k_3, k_4, k_5, k_6, k_40, k_60, k_500, k_10000, pk_mul, nI_add, nI_e0, nI_ee, nI_leI, nI_ltI, xbool0, xbool1, xbn0, xbn1, xb_0, xb_1, reduceIte, one0, Option.isNone_none, ne_eq, not_true_eq_false, not_false_eq_true, if_true, if_false, ite_not, Bool.true_and, Bool.and_true, bq_72_21, bq_72_31, gI p1 4 rfl]
      by_cases h7 : q.1 7 r < 0
      · obtain ⟨M', e, h, s⟩ := P_ref (MI := MI) (i := 5) (x := Int32.ofInt (-5)) HE B (by decide) rfl
        rw [u1 h7, if_pos rfl, if_neg (Int32.not_le.mpr h7)]
        refine ⟨M', ow, ?_, h, s⟩
        simp (decide := true) (disch := omega) only [Option.bind_some, xasI, xasL, xasR, xin_t, cond_true, cond_false, nI_clamp, k_0, k_1, k_2, k_3, k_4, k_5, k_6, k_40, k_60, k_500, k_10000, pk_mul, nI_add, nI_e0, nI_ee, nI_leI, nI_ltI, xbool0, xbool1, xbn0, xbn1, xb_0, xb_1, reduceIte, one0, Option.isNone_none, ne_eq, not_true_eq_false, not_false_eq_true, if_true, if_false, ite_not, Bool.true_and, Bool.and_true, bq_72_38, hX, e, bq_72_44]
      · have er := c_hasRoom (T0 := T0) (MI := MI) (k := 2) H.2.1 (by decide)
        obtain ⟨v1, v2, v3⟩ := u2 h7
        obtain ⟨ob, h8⟩ := hM r hr h2 h7
        rw [v1, if_neg one0, if_pos (Int32.not_lt.mp h7)]
        simp (decide := true) (disch := omega) only [Option.bind_some, xasI, xasL, xasR, xin_t, cond_true, cond_false, nI_clamp, k_0, k_1, k_2, k_3, k_4, k_5, k_6, k_40, k_60, k_500, k_10000, pk_mul, nI_add, nI_e0, nI_ee, nI_leI, nI_ltI, xbool0, xbool1, xbn0, xbn1, xb_0, xb_1, reduceIte, one0, Option.isNone_none, ne_eq, not_true_eq_false, not_false_eq_true, if_true, if_false, ite_not, Bool.true_and, Bool.and_true, bq_72_45, hX, er]
        by_cases h82 : 1200 < nu q 82 0 + 2
        · obtain ⟨M', e, h, s⟩ := P_ref (MI := MI) (i := 6) (x := Int32.ofInt (-6)) HE B (by decide) rfl
          rw [if_pos h82, tI_f (by omega)]
          refine ⟨M', ow, ?_, h, s⟩
          simp (decide := true) (disch := omega) only [Option.bind_some, xasI, xasL, xasR, xin_t, cond_true, cond_false, nI_clamp, k_0, k_1, k_2, k_3, k_4, k_5, k_6, k_40, k_60, k_500, k_10000, pk_mul, nI_add, nI_e0, nI_ee, nI_leI, nI_ltI, xbool0, xbool1, xbn0, xbn1, xb_0, xb_1, reduceIte, one0, Option.isNone_none, ne_eq, not_true_eq_false, not_false_eq_true, if_true, if_false, ite_not, Bool.true_and, Bool.and_true, bq_72_50, bq_72_53, hX, e, bq_72_59]
        · rw [if_neg h82, tI_t (by omega)]
          obtain ⟨M', ow', e, h, s⟩ := R_undo (T0 := T0) (MI := MI) (o1 := xinv (some (vi (nI r)))) H G hr ha h7 ob h8 (by omega)
          refine ⟨M', ow', ?_, h, s⟩
          simp (decide := true) (disch := omega) only [Option.bind_some, xasI, xasL, xasR, xin_t, cond_true, cond_false, nI_clamp, k_0, k_1, k_2, k_3, k_4, k_5, k_6, k_40, k_60, k_500, k_10000, pk_mul, nI_add, nI_e0, nI_ee, nI_leI, nI_ltI, xbool0, xbool1, xbn0, xbn1, xb_0, xb_1, reduceIte, one0, Option.isNone_none, ne_eq, not_true_eq_false, not_false_eq_true, if_true, if_false, ite_not, Bool.true_and, Bool.and_true, bq_72_50]
          exact e
