/-! merge -/
noncomputable def amerge (q : xrho) (L : xLs) (x y : Int32) : Int32 × xrho × xLs := match grng q x with
  | none => (Int32.ofInt (-1), gref q 1, L)
  | some r => match grng q y with
    | none => (Int32.ofInt (-1), gref q 1, L)
    | some s => if q.1 0 0 = 0 ∨ q.1 0 (nu q 6 r) = 0 ∨ q.1 0 (nu q 6 s) = 0 then (Int32.ofInt (-4), gref q 4, L) else if tI (gfree q r (nu q 6 r)) = 0 ∨ tI (gfree q s (nu q 6 s)) = 0 ∨ nu q 6 r ≠ nu q 6 s ∨ (q.1 4 r ≠ q.1 3 s ∧ q.1 4 s ≠ q.1 3 r) ∨ 60 < (L.1 (40 * nu q 6 r + r)).length + (L.1 (40 * nu q 6 r + s)).length then (Int32.ofInt (-5), gref q 5, L) else (mge q r s, gmgq q r s (nu q 6 r), va_up L.1 (40 * nu q 6 r + r) ((L.1 (40 * nu q 6 r + s)).foldl putA (L.1 (40 * nu q 6 r + r))), L.2.1, joinK L.2.2.1 (40 * nu q 6 r + r) (40 * nu q 6 r + s) 6, L.2.2.2)
theorem c_neigh {T0 MI s s' : Nat} {M : xM} {ow : xOw} {n lo hi e h n' lo' hi' e' h' : Int32} (S : isSpot M ow s n lo hi e h) (S' : isSpot M ow s' n' lo' hi' e' h') : xZ T0 MI 62 0 [some (vr (some s)), some (vr (some s'))] [] M = some (some (vi (tI (hi = lo' ∨ hi' = lo))), M) := by
  obtain ⟨-, -, a1, a2, -⟩ := sp_g S
  obtain ⟨-, -, b1, b2, -⟩ := sp_g S'
  rw [bq_62_0, a2, Option.bind_some, Option.bind_some, b1, Option.bind_some]
  by_cases c1 : hi = lo'
  · rw [if_pos c1, tI_t (Or.inl c1), bq_62_22, bq_62_27]; rfl
  · rw [if_neg c1, bq_62_11, Option.bind_some, b2, Option.bind_some, a1, Option.bind_some]
    by_cases c2 : hi' = lo
    · rw [if_pos c2, tI_t (Or.inr c2), bq_62_22, bq_62_27]; rfl
    · rw [if_neg c2, tI_f (fun h => h.elim c1 c2), bq_62_26, bq_62_27]; rfl
abbrev mgC (q : xrho) (r s : Nat) : Prop := gfree q r (nu q 6 r) ∧ gfree q s (nu q 6 s) ∧ (q.1 4 r = q.1 3 s ∨ q.1 4 s = q.1 3 r) ∧ nu q 6 r = nu q 6 s
theorem c_mg1 {T0 MI X n r s a b s1 s2 b1 b2 : Nat} {ad : Nat → Nat} {fh fp : Nat → Option Nat} {cl ll dl : List Nat} {aa : Nat → Nat} {pk : Nat → Option Nat} {q : xrho} {L : xLs} {M : xM} {ow : xOw} {o8 o9 o10 o11 : Option xV} (H : Rep T0 X n ad fh fp cl ll dl aa pk q L M ow) (K : bkOK q) (hr : r < 40) (hs : s < 40) (ha : fp r = some a) (hb : fp s = some b) (h1 : xgetR M a 7 0 = some (some s1)) (h2 : xgetR M b 7 0 = some (some s2)) : (mgC q r s → xZ T0 MI 74 102 [some (vr (some X)), some (vi (nI r)), some (vi (nI s)), some (vr (some a)), some (vr (some b)), some (vr (some s1)), some (vr (some s2)), some (vr (some b1)), o8, o9, o10, o11] [vr (some b2)] M = xZ T0 MI 74 154 [some (vr (some X)), some (vi (nI r)), some (vi (nI s)), some (vr (some a)), some (vr (some b)), some (vr (some s1)), some (vr (some s2)), some (vr (some b1)), some (vr (some b2)), o9, o10, o11] [] M) ∧ (¬ mgC q r s → xZ T0 MI 74 102 [some (vr (some X)), some (vi (nI r)), some (vi (nI s)), some (vr (some a)), some (vr (some b)), some (vr (some s1)), some (vr (some s2)), some (vr (some b1)), o8, o9, o10, o11] [vr (some b2)] M = xZ T0 MI 74 176 [some (vr (some X)), some (vi (nI r)), some (vi (nI s)), some (vr (some a)), some (vr (some b)), some (vr (some s1)), some (vr (some s2)), some (vr (some b1)), some (vr (some b2)), o9, o10, o11] [] M) := by
  have hX := (ho_c H.2.1).1
  have h6 := K.2.2.2.2.2.1 r hr
  have h6s := K.2.2.2.2.2.1 s hs
  have pr := H.2.2.2.1 r hr
  have ps := H.2.2.2.1 s hs
  rw [ha] at pr
  rw [hb] at ps
  have f1 := x_isFree (T0 := T0) (MI := MI) (o2 := none) (o3 := none) H.2.1 H.2.2.1 pr hr h6
  have f2 := x_isFree (T0 := T0) (MI := MI) (o2 := none) (o3 := none) H.2.1 H.2.2.1 ps hs h6s
  obtain ⟨-, s1', gi, ta, uw, pg, sp, -⟩ := pr
  obtain ⟨-, s2', gi2, ta2, uw2, pg2, sp2, -⟩ := ps
  have e1 : s1' = s1 := by
    have := gR pg.1 0 (show _ = some (vr (some s1')) from rfl)
    rw [h1] at this
    cases this
    rfl
  have e2 : s2' = s2 := by
    have := gR pg2.1 0 (show _ = some (vr (some s2')) from rfl)
    rw [h2] at this
    cases this
    rfl
  subst e1
  subst e2
  have nb := c_neigh (T0 := T0) (MI := MI) sp sp2
  have g4 := (sp_g sp).2.2.2.2.2
  have g4s := (sp_g sp2).2.2.2.2.2
  rw [h6.1] at g4
  rw [h6s.1] at g4s
  have b65 := h6.2
  have b65s := h6s.2
  rw [bq_74_102, hX, cond_true, f1]
  simp (decide := true) (disch := omega) only [Option.bind_some, xasI, xasL, xasR, xin_t, cond_true, cond_false, nI_clamp, k_0, k_1, k_2, k_3, k_4, k_5, k_6, k_40, k_60, k_500, k_10000, pk_mul, nI_add, nI_e0, nI_ee, nI_leI, nI_ltI, xbool0, xbool1, xbn0, xbn1, xb_0, xb_1, reduceIte, one0, Option.isNone_none, ne_eq, not_true_eq_false, not_false_eq_true, if_true, if_false, ite_not, Bool.true_and, Bool.and_true]
  rw [bq_74_109]
  by_cases c1 : gfree q r (nu q 6 r)
  · rw [tI_t c1, if_neg one0, bq_74_112, hX, cond_true, f2]
    simp (decide := true) (disch := omega) only [Option.bind_some, xasI, xasL, xasR, xin_t, cond_true, cond_false, nI_clamp, k_0, k_1, k_2, k_3, k_4, k_5, k_6, k_40, k_60, k_500, k_10000, pk_mul, nI_add, nI_e0, nI_ee, nI_leI, nI_ltI, xbool0, xbool1, xbn0, xbn1, xb_0, xb_1, reduceIte, one0, Option.isNone_none, ne_eq, not_true_eq_false, not_false_eq_true, if_true, if_false, ite_not, Bool.true_and, Bool.and_true]
    rw [bq_74_118]
    by_cases c2 : gfree q s (nu q 6 s)
    · rw [tI_t c2, if_neg one0, bq_74_121, Option.bind_some, (sp_g sp).1, cond_true, nb]
      simp (decide := true) (disch := omega) only [Option.bind_some, xasI, xasL, xasR, xin_t, cond_true, cond_false, nI_clamp, k_0, k_1, k_2, k_3, k_4, k_5, k_6, k_40, k_60, k_500, k_10000, pk_mul, nI_add, nI_e0, nI_ee, nI_leI, nI_ltI, xbool0, xbool1, xbn0, xbn1, xb_0, xb_1, reduceIte, one0, Option.isNone_none, ne_eq, not_true_eq_false, not_false_eq_true, if_true, if_false, ite_not, Bool.true_and, Bool.and_true]
      rw [bq_74_128]
      by_cases c3 : q.1 4 r = q.1 3 s ∨ q.1 4 s = q.1 3 r
      · rw [tI_t c3, if_neg one0, bq_74_131, Option.bind_some, g4, Option.bind_some, Option.bind_some, g4s, Option.bind_some]
        by_cases c4 : nu q 6 r = nu q 6 s
        · rw [if_pos (by rw [c4]), bq_74_144, Option.isNone_some, cond_false, bq_74_149, Option.isNone_some, cond_false]
          exact ⟨fun _ => rfl, fun h => absurd ⟨c1, c2, c3, c4⟩ h⟩
        · rw [if_neg (by rw [nI_ee (by omega) (by omega)]; exact c4)]
          exact ⟨fun h => absurd h.2.2.2 c4, fun _ => rfl⟩
      · rw [tI_f c3, if_pos rfl]
        exact ⟨fun h => absurd h.2.2.1 c3, fun _ => rfl⟩
    · rw [tI_f c2, if_pos rfl]
      exact ⟨fun h => absurd h.2.1 c2, fun _ => rfl⟩
  · rw [tI_f c1, if_pos rfl]
    exact ⟨fun h => absurd h.1 c1, fun _ => rfl⟩
def gmg1 (q : xrho) (x y h : Nat) : xrho := rup (rup (rup (rup q 16 (40 * h + x) (mglo q x y)) 17 (40 * h + x) (mghi q x y)) 18 (40 * h + x) (mge q x y)) 15 (40 * h + y) (nI 0)
theorem gmg1_v (q : xrho) (x y h p : Nat) : (gmg1 q x y h).1 15 p = (if p = 40 * h + y then nI 0 else q.1 15 p) ∧ (gmg1 q x y h).1 16 p = (if p = 40 * h + x then mglo q x y else q.1 16 p) ∧ (gmg1 q x y h).1 17 p = (if p = 40 * h + x then mghi q x y else q.1 17 p) ∧ (gmg1 q x y h).1 18 p = (if p = 40 * h + x then mge q x y else q.1 18 p) := by
  unfold gmg1
  simp (decide := true) only [rup_r, and_true, and_false, false_and, true_and, reduceIte, and_self]
theorem gmg1_o (q : xrho) (x y h : Nat) {k i : Nat} (hk : ¬ (15 ≤ k ∧ k ≤ 18)) : (gmg1 q x y h).1 k i = q.1 k i := by
  unfold gmg1
  rw [rup_ne _ _ _ _ (by omega), rup_ne _ _ _ _ (by omega), rup_ne _ _ _ _ (by omega), rup_ne _ _ _ _ (by omega)]
theorem gmgq_1 (q : xrho) (x y h : Nat) {k i : Nat} (hk : k = 0 ∨ 15 ≤ k) : (gmgq q x y h).1 k i = (gmg1 q x y h).1 k i := by
  unfold gmgq gmg0 gmg1
  refine rup_cg (rup_cg (rup_cg (rup_cg ?_)))
  rw [rup_ne _ _ _ _ (by omega), rup_ne _ _ _ _ (by omega), rup_ne _ _ _ _ (by omega), rup_ne _ _ _ _ (by omega)]
theorem gmgq_b (q : xrho) (x y h i : Nat) : (gmgq q x y h).1 2 i = (if i = y then nI 0 else q.1 2 i) ∧ (gmgq q x y h).1 3 i = (if i = x then mglo q x y else q.1 3 i) ∧ (gmgq q x y h).1 4 i = (if i = x then mghi q x y else q.1 4 i) ∧ (gmgq q x y h).1 5 i = (if i = x then mge q x y else q.1 5 i) := by
  unfold gmgq gmg0
  simp (decide := true) only [rup_r, and_true, and_false, false_and, true_and, reduceIte, and_self]
theorem gmgq_o (q : xrho) (x y h : Nat) {k i : Nat} (hk : (6 ≤ k ∧ k ≤ 14) ∨ k = 1) : (gmgq q x y h).1 k i = q.1 k i := by
  unfold gmgq gmg0
  rw [rup_ne _ _ _ _ (by omega), rup_ne _ _ _ _ (by omega), rup_ne _ _ _ _ (by omega), rup_ne _ _ _ _ (by omega), rup_ne _ _ _ _ (by omega), rup_ne _ _ _ _ (by omega), rup_ne _ _ _ _ (by omega), rup_ne _ _ _ _ (by omega)]
/-- the merging itself: from 183 on -/
theorem R_merge {T0 MI X n r s a b h ha' b1 b2 s1 s2 : Nat} {ad : Nat → Nat} {fh fp : Nat → Option Nat} {cl ll dl : List Nat} {aa : Nat → Nat} {pk : Nat → Option Nat} {q : xrho} {L : xLs} {M : xM} {ow : xOw} {f : Nat → Option Nat} {o9 o10 o11 : Option xV} (H : Rep T0 X n ad fh fp cl ll dl aa pk q L M ow) (B : bds q) (K : bkOK q) (hX : LX q L) (hr : r < 40) (hs : s < 40) (hne : r ≠ s) (hh : h < 6) (h6 : nu q 6 r = h) (h6s : nu q 6 s = h) (ha : fp r = some a) (hb : fp s = some b) (h1 : xgetR M a 7 0 = some (some s1)) (h2 : xgetR M b 7 0 = some (some s2)) (e15 : q.1 15 (40 * h + r) = nI 1) (e15s : q.1 15 (40 * h + s) = nI 1) (f1 : fh h = some ha') (f2 : rHost T0 M ow h ha' f q) (f3 : ∀ r', r' < 40 → rHold M ow (f r') (40 * h + r') q L pk) (fr : f r = some b1) (fs : f s = some b2) : ∃ M' ow', xZ T0 MI 74 183 [some (vr (some X)), some (vi (nI r)), some (vi (nI s)), some (vr (some a)), some (vr (some b)), some (vr (some s1)), some (vr (some s2)), some (vr (some b1)), some (vr (some b2)), o9, o10, o11] [] M = some (some (vi (mge q r s)), M') ∧ RepE T0 X n (gmgq q r s h) (va_up L.1 (40 * h + r) ((L.1 (40 * h + s)).foldl putA (L.1 (40 * h + r))), L.2.1, joinK L.2.2.1 (40 * h + r) (40 * h + s) 6, L.2.2.2) M' ow' ∧ stp ext 1 5 ow M ow' M' := by
  have pr := H.2.2.2.1 r hr
  have ps := H.2.2.2.1 s hs
  rw [ha] at pr
  rw [hb] at ps
  obtain ⟨has, s1', gi, ta, uw, pg, sp, u1, u2, u3⟩ := pr
  obtain ⟨-, s2', gi2, ta2, uw2, pg2, sp2, -⟩ := ps
  have e1 : s1' = s1 := by
    have := gR pg.1 0 (show _ = some (vr (some s1')) from rfl)
    rw [h1] at this
    cases this
    rfl
  have e2 : s2' = s2 := by
    have := gR pg2.1 0 (show _ = some (vr (some s2')) from rfl)
    rw [h2] at this
    cases this
    rfl
  subst e1
  subst e2
  obtain ⟨-, -, g1, g2, g3, -⟩ := sp_g sp
  obtain ⟨-, -, g1s, g2s, g3s, -⟩ := sp_g sp2
  have N0 := f3 r hr
  rw [fr] at N0
  have N1 := f3 s hs
  rw [fs] at N1
  obtain ⟨ra, ka, sa, hh1, sn, R, K0, S, hA, ti⟩ := N0
  obtain ⟨rb, kb, sb, hh2, sn', R', K', S', hB, tj⟩ := N1
  obtain ⟨-, tR, tK⟩ := ti.2.2.1 (by rw [e15]; decide)
  obtain ⟨-, tR', tK'⟩ := tj.2.2.1 (by rw [e15s]; decide)
  obtain ⟨M1, ec, cA, cB, t1⟩ := c_swal (T0 := T0) (MI := MI) (o2 := none) (show 100 + (40 * h + r) ≠ 100 + (40 * h + s) by omega) hA hB
  obtain ⟨M2, ew, wA, t2⟩ := c_beW (T0 := T0) (MI := MI) (x := mglo q r s) (y := mghi q r s) (z := mge q r s) cA
  have wB := hA_f cB t2 (fun t ht => by show t.1 ≠ _; omega)
  have t12 : stp (off2 (100 + (40 * h + r)) (100 + (40 * h + s))) 0 0 ow M ow M2 := stp_tr t1 (stp_w t2 (fun t ht => ht.1) (Nat.le_refl _) (Nat.le_refl _))
  have ng := gmg1_v q r s h
  have H2 : Rep T0 X n ad fh fp cl ll dl aa pk (gmg1 q r s h) (va_up L.1 (40 * h + r) ((L.1 (40 * h + s)).foldl putA (L.1 (40 * h + r))), L.2.1, joinK L.2.2.1 (40 * h + r) (40 * h + s) 6, L.2.2.2) M2 ow := by
    refine Rep_hd2 H B hh hr hs f1 f2 f3 t12 ?_ ?_ (fun k i h => gmg1_o _ _ _ _ (by omega)) (fun k p hp hp2 hk => ?_) (fun _ _ _ _ => rfl) (fun p hp hp2 => ?_) (fun _ _ _ => rfl) (fun p c hp hp2 hc => ?_) rfl
    · rw [fr]
      refine ⟨ra, ka, sa, _, none, _, _, _, wA, ?_⟩
      unfold tie
      rw [(ng _).1, (ng _).2.1, (ng _).2.2.1, (ng _).2.2.2, if_neg (by omega), if_pos rfl, if_pos rfl, if_pos rfl, e15, gmg1_o _ _ _ _ (k := 30) (by decide), gmg1_o _ _ _ _ (k := 31) (by decide)]
      refine ⟨⟨rfl, ti.1.2.1, ti.1.2.2⟩, fun h => absurd h (by decide), fun _ => ⟨⟨rfl, rfl, rfl⟩, ?_, fun c hc => ?_⟩, fun h => ?_, fun h => ?_, fun h => absurd h (by decide)⟩
      · dsimp only
        rw [va_up_self, tR, tR']
      · unfold joinK
        dsimp only
        have p1 := hX.1.2.2 (6 * (40 * h + r) + c) (by omega)
        have p2 := hX.1.2.2 (6 * (40 * h + s) + c) (by omega)
        rw [if_pos (by omega), show 6 * (40 * h + r) + c - 6 * (40 * h + r) = c by omega, join_rev p1.2.2.2 p1.2.1 p2.2.2.2, tK c hc, tK' c hc]
      · rcases h with h | h | h <;> exact absurd h (by decide)
      · rcases h with h | h <;> exact absurd h (by decide)
    · rw [fs]
      refine ⟨rb, kb, sb, _, none, _, _, _, wB, ?_⟩
      unfold tie
      rw [(ng _).1, if_pos rfl, gmg1_o _ _ _ _ (k := 30) (by decide), gmg1_o _ _ _ _ (k := 31) (by decide)]
      refine ⟨⟨rfl, tj.1.2.1, tj.1.2.2⟩, fun _ => ⟨rfl, fun _ _ => rfl⟩, fun h => absurd rfl h, fun h => ?_, fun h => ?_, fun h => absurd h (by decide)⟩
      · rcases h with h | h | h <;> exact absurd h (by decide)
      · rcases h with h | h <;> exact absurd h (by decide)
    · rcases hk with hk | hk
      · rcases (show k = 15 ∨ k = 16 ∨ k = 17 ∨ k = 18 by omega) with rfl | rfl | rfl | rfl
        · rw [(ng _).1, if_neg hp2]
        · rw [(ng _).2.1, if_neg hp]
        · rw [(ng _).2.2.1, if_neg hp]
        · rw [(ng _).2.2.2, if_neg hp]
      · exact gmg1_o _ _ _ _ (by omega)
    · dsimp only
      rw [va_up_ne _ _ hp]
    · unfold joinK
      dsimp only
      rw [if_neg (by omega)]
  have B2 : bds (gmg1 q r s h) := bds_e B (fun k i hk => gmg1_o _ _ _ _ (by omega))
  have pgM := oPg_f pg t12 (fun t ht => by show t.1 ≠ _ ∧ t.1 ≠ _; omega)
  have spM := isSpot_f sp t12 (fun t ht => by show t.1 ≠ _ ∧ t.1 ≠ _; omega)
  -- the new spot
  obtain ⟨M3, e3, s3, t3⟩ := c_newSp (T0 := T0) (MI := MI) (M := M2) (ow := ow) (n := nI r) (lo := mglo q r s) (hi := mghi q r s) (e := mge q r s) (h := q.1 6 r)
  have sp3 := newO_c (c := 10) spM.1 spM.2.2
  obtain ⟨M4, e4, pg4, t4⟩ := pg_spot (s' := M2.1) (oPg_f pgM (t3 (fun _ => True)) (fun _ _ => trivial))
  have s4 := isSpot_f s3 t4 (fun t ht => by omega)
  obtain ⟨g, ho, hg⟩ := H2.2.1
  have ho4 := oHo_f (oHo_f ho (t3 (fun _ => True)) (fun _ _ => trivial) (fun _ _ => trivial)) t4 (fun t ht => by omega) (fun t ht => by omega)
  obtain ⟨M5, e5, ho5, t5⟩ := oHo_p (i := s) (v := none) ho4 hs (mayN _ _)
  have t5' : stp (fun t => t.1 ≠ 1) 0 0 _ M4 _ M5 := stp_w t5 (fun t ht e => ht (by rw [e])) (Nat.le_refl _) (Nat.le_refl _)
  have t345 : stp (fun t => t.1 ≠ 1 ∧ t.1 ≠ 400 + r) 1 5 ow M2 _ M5 := stp_tr (stp_tr (t3 _) (stp_w t4 (fun t ht => ht.2) (Nat.le_refl _) (Nat.le_refl _))) (stp_w t5' (fun t ht => ht.1) (Nat.le_refl _) (Nat.le_refl _))
  have gb := gmgq_b q r s h
  have go : ∀ k i, ((6 ≤ k ∧ k ≤ 14) ∨ k = 1) → (gmgq q r s h).1 k i = q.1 k i := fun k i hk => gmgq_o _ _ _ _ hk
  have ob : ∀ t, obits (gmgq q r s h) t = obits q t := fun t => obits_e (fun k i a b => go k i (by omega)) t
  refine ⟨M5, _, ?_, ⟨_, _, _, _, _, _, _, _, Rep_bk (fp' := va_up fp s none) (q' := gmgq q r s h) H2 B2 (stp_w t345 (fun t ht => by omega) (Nat.le_refl _) (Nat.le_refl _)) ⟨g, ?_, fun i hi => ?_⟩ (fun t ht => ?_) (fun k i hk => gmgq_1 _ _ _ _ hk) (fun _ _ => rfl)⟩, ?_⟩
  · rw [bq_74_183, Option.bind_some, g3, Option.bind_some, Option.bind_some, g3s, Option.bind_some, Option.bind_some, g1, Option.bind_some, Option.bind_some, g1s, Option.bind_some, Option.bind_some, g2, Option.bind_some, Option.bind_some, g2s, Option.bind_some, Option.bind_some, hA_c hA, cond_true, ec]
    simp (decide := true) (disch := omega) only [Option.bind_some, xasI, xasL, xasR, xin_t, cond_true, cond_false, nI_clamp, k_0, k_1, k_2, k_3, k_4, k_5, k_6, k_40, k_60, k_500, k_10000, pk_mul, nI_add, nI_e0, nI_ee, nI_leI, nI_ltI, xbool0, xbool1, xbn0, xbn1, xb_0, xb_1, reduceIte, one0, Option.isNone_none, ne_eq, not_true_eq_false, not_false_eq_true, if_true, if_false, ite_not, Bool.true_and, Bool.and_true]
    rw [bq_74_237, Option.bind_some, hA_c cA, cond_true]
    rw [show (xZ T0 MI 14 0 [some (vr (some b1)), some (vi (if q.1 3 s < q.1 3 r then q.1 3 s else q.1 3 r)), some (vi (if q.1 4 r < q.1 4 s then q.1 4 s else q.1 4 r)), some (vi ((if q.1 5 r < q.1 5 s then q.1 5 s else q.1 5 r) + nI 1))] [] M1) = some (none, M2) from ew]
    simp (decide := true) (disch := omega) only [Option.bind_some, xasI, xasL, xasR, xin_t, cond_true, cond_false, nI_clamp, k_0, k_1, k_2, k_3, k_4, k_5, k_6, k_40, k_60, k_500, k_10000, pk_mul, nI_add, nI_e0, nI_ee, nI_leI, nI_ltI, xbool0, xbool1, xbn0, xbn1, xb_0, xb_1, reduceIte, one0, Option.isNone_none, ne_eq, not_true_eq_false, not_false_eq_true, if_true, if_false, ite_not, Bool.true_and, Bool.and_true]
    rw [bq_74_248, Option.bind_some, gI sp3 4 rfl, Option.bind_some]
    rw [show (xZ T0 MI 59 0 [some (vr (some M2.1)), some (vi (nI r)), some (vi (if q.1 3 s < q.1 3 r then q.1 3 s else q.1 3 r)), some (vi (if q.1 4 r < q.1 4 s then q.1 4 s else q.1 4 r)), some (vi ((if q.1 5 r < q.1 5 s then q.1 5 s else q.1 5 r) + nI 1)), some (vi (q.1 6 r))] [] (xnewO M2 10)) = some (none, M3) from e3]
    simp (decide := true) (disch := omega) only [Option.bind_some, xasI, xasL, xasR, xin_t, cond_true, cond_false, nI_clamp, k_0, k_1, k_2, k_3, k_4, k_5, k_6, k_40, k_60, k_500, k_10000, pk_mul, nI_add, nI_e0, nI_ee, nI_leI, nI_ltI, xbool0, xbool1, xbn0, xbn1, xb_0, xb_1, reduceIte, one0, Option.isNone_none, ne_eq, not_true_eq_false, not_false_eq_true, if_true, if_false, ite_not, Bool.true_and, Bool.and_true]
    rw [bq_74_268, Option.bind_some, e4, Option.bind_some, gR ho4.1 1 rfl, Option.bind_some, Option.bind_some, e5, Option.bind_some]
    rfl
  · rw [go 12 0 (by omega), go 13 0 (by omega), go 14 0 (by omega)]
    rw [gmg1_o _ _ _ _ (k := 12) (by decide), gmg1_o _ _ _ _ (k := 13) (by decide), gmg1_o _ _ _ _ (k := 14) (by decide)] at ho5
    exact ho5
  · rw [hg i hi, go 1 i (by omega), gmg1_o _ _ _ _ (by omega)]
  · by_cases et : t = s
    · subst et
      rw [va_up_self]
      show (gmgq q r t h).1 2 t = 0
      rw [(gb _).1, if_pos rfl]
      rfl
    · rw [va_up_ne _ _ et]
      by_cases er : t = r
      · subst er
        rw [ha]
        show (gmgq q t s h).1 2 t = 1 ∧ _
        rw [(gb _).1, (gb _).2.1, (gb _).2.2.1, (gb _).2.2.2, if_neg hne, if_pos rfl, if_pos rfl, if_pos rfl, go 6 _ (by omega), go 7 _ (by omega), go 8 _ (by omega), go 10 _ (by omega), go 11 _ (by omega), ob]
        exact ⟨has, M2.1, gi, ta, uw, oPg_f pg4 t5' (fun t ht => by omega), isSpot_f s4 t5' (fun t ht => by omega), u1, u2, u3⟩
      · refine rPage_f (H2.2.2.2.1 t ht) t345 (fun t ht => by omega) (fun t ht => by omega) (fun k k1 k2 k3 => ?_) ?_
        · rw [gmg1_o _ _ _ _ (by omega)]
          rcases (show k = 2 ∨ k = 3 ∨ k = 4 ∨ k = 5 ∨ (6 ≤ k ∧ k ≤ 14) by omega) with rfl | rfl | rfl | rfl | hk
          · rw [(gb _).1, if_neg et]
          · rw [(gb _).2.1, if_neg er]
          · rw [(gb _).2.2.1, if_neg er]
          · rw [(gb _).2.2.2, if_neg er]
          · exact go k t (Or.inl hk)
        · rw [ob]
          exact (obits_e (fun k i a b => gmg1_o _ _ _ _ (by omega)) t).symm
  · exact stp_w (stp_tr (ext_of t12 (fun t ht => by show t.1 ≠ _ ∧ t.1 ≠ _; omega) (Nat.le_refl _) (Nat.le_refl _)) (ext_of t345 (fun t ht => by omega) (Nat.le_refl _) (Nat.le_refl _))) (fun _ h => h) (by omega) (by omega)
theorem P_merge {T0 MI X n : Nat} {q : xrho} {L : xLs} {M : xM} {ow : xOw} {x y : Int32} {o3 o4 o5 o6 o7 o8 o9 o10 o11 : Option xV} (H : RepE T0 X n q L M ow) (B : bds q) (K : bkOK q) (hX : LX q L) : ∃ M' ow', xZ T0 MI 74 0 [some (vr (some X)), some (vi x), some (vi y), o3, o4, o5, o6, o7, o8, o9, o10, o11] [] M = some (some (vi (amerge q L x y).1), M') ∧ RepE T0 X n (amerge q L x y).2.1 (amerge q L x y).2.2 M' ow' ∧ stp ext 23 463 ow M ow' M' := by
  have HE := H
  obtain ⟨ad, fh, fp, cl, ll, dl, aa, pk, H⟩ := H
  have hXc := (ho_c H.2.1).1
  have pe1 : xZ T0 MI 89 0 [some (vr (some X)), some (vi x)] [] M = some (some (vr (match grng q x with
    | none => none
    | some r => fp r)), M) := by rw [c_pageOf H.2.1, pg_of H K]; rfl
  have pe2 : xZ T0 MI 89 0 [some (vr (some X)), some (vi y)] [] M = some (some (vr (match grng q y with
    | none => none
    | some r => fp r)), M) := by rw [c_pageOf H.2.1, pg_of H K]; rfl
  rw [bq_74_0, hXc, cond_true, pe1]
  simp (decide := true) (disch := omega) only [Option.bind_some, xasI, xasL, xasR, xin_t, cond_true, cond_false, nI_clamp, k_0, k_1, k_2, k_3, k_4, k_5, k_6, k_40, k_60, k_500, k_10000, pk_mul, nI_add, nI_e0, nI_ee, nI_leI, nI_ltI, xbool0, xbool1, xbn0, xbn1, xb_0, xb_1, reduceIte, one0, Option.isNone_none, ne_eq, not_true_eq_false, not_false_eq_true, if_true, if_false, ite_not, Bool.true_and, Bool.and_true, bq_74_5, hXc, pe2]
  unfold amerge
  cases hx : grng q x with
  | none =>
    obtain ⟨M', e, h, s⟩ := P_ref (MI := MI) (i := 1) (x := Int32.ofInt (-1)) HE B (by decide) rfl
    refine ⟨M', ow, ?_, h, s⟩
    simp (decide := true) (disch := omega) only [Option.bind_some, xasI, xasL, xasR, xin_t, cond_true, cond_false, nI_clamp, k_0, k_1, k_2, k_3, k_4, k_5, k_6, k_40, k_60, k_500, k_10000, pk_mul, nI_add, nI_e0, nI_ee, nI_leI, nI_ltI, xbool0, xbool1, xbn0, xbn1, xb_0, xb_1, reduceIte, one0, Option.isNone_none, ne_eq, not_true_eq_false, not_false_eq_true, if_true, if_false, ite_not, Bool.true_and, Bool.and_true, bq_74_11, bq_74_22, hXc, e, bq_74_27]
  | some r =>
    obtain ⟨hr, rfl, h2, hrn, a, ha, hp⟩ := pg_some H K hx
    cases hy : grng q y with
    | none =>
      obtain ⟨M', e, h, s⟩ := P_ref (MI := MI) (i := 1) (x := Int32.ofInt (-1)) HE B (by decide) rfl
      refine ⟨M', ow, ?_, h, s⟩
      simp (decide := true) (disch := omega) only [Option.bind_some, xasI, xasL, xasR, xin_t, cond_true, cond_false, nI_clamp, k_0, k_1, k_2, k_3, k_4, k_5, k_6, k_40, k_60, k_500, k_10000, pk_mul, nI_add, nI_e0, nI_ee, nI_leI, nI_ltI, xbool0, xbool1, xbn0, xbn1, xb_0, xb_1, reduceIte, one0, Option.isNone_none, ne_eq, not_true_eq_false, not_false_eq_true, if_true, if_false, ite_not, Bool.true_and, Bool.and_true, ha, Option.isNone_some, bq_74_11, bq_74_17, bq_74_22, hXc, e, bq_74_27]
    | some s =>
      obtain ⟨hs, rfl, h2s, hsn, b, hb, hps⟩ := pg_some H K hy
      have h6 := K.2.2.2.2.2.1 r hr
      have h6s := K.2.2.2.2.2.1 s hs
      have h66 : nu q 6 r < 6 := by have := h6.2; omega
      have h66s : nu q 6 s < 6 := by have := h6s.2; omega
      obtain ⟨-, s1, gi, ta, uw, pg, sp, -⟩ := hp
      obtain ⟨-, s2, gi2, ta2, uw2, pg2, sp2, -⟩ := hps
      have g4 := (sp_g sp).2.2.2.2.2
      have g4s := (sp_g sp2).2.2.2.2.2
      rw [h6.1] at g4
      rw [h6s.1] at g4s
      have iu := c_isUp (T0 := T0) (MI := MI) (h := 0) (o2 := none) H.2.1 H.2.2.1 (by decide)
      have iur := c_isUp (T0 := T0) (MI := MI) (h := nu q 6 r) (o2 := none) H.2.1 H.2.2.1 h66
      have ius := c_isUp (T0 := T0) (MI := MI) (h := nu q 6 s) (o2 := none) H.2.1 H.2.2.1 h66s
      simp (decide := true) (disch := omega) only [Option.bind_some, xasI, xasL, xasR, xin_t, cond_true, cond_false, nI_clamp, k_0, k_1, k_2, k_3, k_4, k_5, k_6, k_40, k_60, k_500, k_10000, pk_mul, nI_add, nI_e0, nI_ee, nI_leI, nI_ltI, xbool0, xbool1, xbn0, xbn1, xb_0, xb_1, reduceIte, one0, Option.isNone_none, ne_eq, not_true_eq_false, not_false_eq_true, if_true, if_false, ite_not, Bool.true_and, Bool.and_true, ha, hb, Option.isNone_some, bq_74_11, bq_74_17]
      rw [bq_74_28, Option.bind_some, gR pg.1 0 rfl, Option.bind_some, Option.bind_some, gR pg2.1 0 rfl, Option.bind_some, hXc, cond_true, k_0, iu]
      simp (decide := true) (disch := omega) only [Option.bind_some, xasI, xasL, xasR, xin_t, cond_true, cond_false, nI_clamp, k_0, k_1, k_2, k_3, k_4, k_5, k_6, k_40, k_60, k_500, k_10000, pk_mul, nI_add, nI_e0, nI_ee, nI_leI, nI_ltI, xbool0, xbool1, xbn0, xbn1, xb_0, xb_1, reduceIte, one0, Option.isNone_none, ne_eq, not_true_eq_false, not_false_eq_true, if_true, if_false, ite_not, Bool.true_and, Bool.and_true]
      by_cases hu : q.1 0 0 = 0 ∨ q.1 0 (nu q 6 r) = 0 ∨ q.1 0 (nu q 6 s) = 0
      · obtain ⟨M', e, h, s⟩ := P_ref (MI := MI) (i := 4) (x := Int32.ofInt (-4)) HE B (by decide) rfl
        rw [if_pos hu]
        refine ⟨M', ow, ?_, h, s⟩
        by_cases u0 : q.1 0 0 = 0
        · rw [tI_f (fun h => h u0)]
          simp (decide := true) (disch := omega) only [Option.bind_some, xasI, xasL, xasR, xin_t, cond_true, cond_false, nI_clamp, k_0, k_1, k_2, k_3, k_4, k_5, k_6, k_40, k_60, k_500, k_10000, pk_mul, nI_add, nI_e0, nI_ee, nI_leI, nI_ltI, xbool0, xbool1, xbn0, xbn1, xb_0, xb_1, reduceIte, one0, Option.isNone_none, ne_eq, not_true_eq_false, not_false_eq_true, if_true, if_false, ite_not, Bool.true_and, Bool.and_true, bq_74_46, bq_74_73, hXc, e, bq_74_79]
        · rw [tI_t u0]
          simp (decide := true) (disch := omega) only [Option.bind_some, xasI, xasL, xasR, xin_t, cond_true, cond_false, nI_clamp, k_0, k_1, k_2, k_3, k_4, k_5, k_6, k_40, k_60, k_500, k_10000, pk_mul, nI_add, nI_e0, nI_ee, nI_leI, nI_ltI, xbool0, xbool1, xbn0, xbn1, xb_0, xb_1, reduceIte, one0, Option.isNone_none, ne_eq, not_true_eq_false, not_false_eq_true, if_true, if_false, ite_not, Bool.true_and, Bool.and_true, bq_74_46, bq_74_49, g4, hXc, iur]
          by_cases u1 : q.1 0 (nu q 6 r) = 0
          · rw [tI_f (fun h => h u1)]
            simp (decide := true) (disch := omega) only [Option.bind_some, xasI, xasL, xasR, xin_t, cond_true, cond_false, nI_clamp, k_0, k_1, k_2, k_3, k_4, k_5, k_6, k_40, k_60, k_500, k_10000, pk_mul, nI_add, nI_e0, nI_ee, nI_leI, nI_ltI, xbool0, xbool1, xbn0, xbn1, xb_0, xb_1, reduceIte, one0, Option.isNone_none, ne_eq, not_true_eq_false, not_false_eq_true, if_true, if_false, ite_not, Bool.true_and, Bool.and_true, bq_74_58, bq_74_73, hXc, e, bq_74_79]
          · rw [tI_t u1]
            simp (decide := true) (disch := omega) only [Option.bind_some, xasI, xasL, xasR, xin_t, cond_true, cond_false, nI_clamp, k_0, k_1, k_2, k_3, k_4, k_5, k_6, k_40, k_60, k_500, k_10000, pk_mul, nI_add, nI_e0, nI_ee, nI_leI, nI_ltI, xbool0, xbool1, xbn0, xbn1, xb_0, xb_1, reduceIte, one0, Option.isNone_none, ne_eq, not_true_eq_false, not_false_eq_true, if_true, if_false, ite_not, Bool.true_and, Bool.and_true, bq_74_58, bq_74_61, g4s, hXc, ius]
            rw [tI_f (fun h => h ((hu.resolve_left u0).resolve_left u1))]
            simp (decide := true) (disch := omega) only [Option.bind_some, xasI, xasL, xasR, xin_t, cond_true, cond_false, nI_clamp, k_0, k_1, k_2, k_3, k_4, k_5, k_6, k_40, k_60, k_500, k_10000, pk_mul, nI_add, nI_e0, nI_ee, nI_leI, nI_ltI, xbool0, xbool1, xbn0, xbn1, xb_0, xb_1, reduceIte, one0, Option.isNone_none, ne_eq, not_true_eq_false, not_false_eq_true, if_true, if_false, ite_not, Bool.true_and, Bool.and_true, bq_74_70, bq_74_73, hXc, e, bq_74_79]
      · rw [if_neg hu, tI_t (fun h => hu (Or.inl h))]
        simp (decide := true) (disch := omega) only [Option.bind_some, xasI, xasL, xasR, xin_t, cond_true, cond_false, nI_clamp, k_0, k_1, k_2, k_3, k_4, k_5, k_6, k_40, k_60, k_500, k_10000, pk_mul, nI_add, nI_e0, nI_ee, nI_leI, nI_ltI, xbool0, xbool1, xbn0, xbn1, xb_0, xb_1, reduceIte, one0, Option.isNone_none, ne_eq, not_true_eq_false, not_false_eq_true, if_true, if_false, ite_not, Bool.true_and, Bool.and_true, bq_74_46, bq_74_49, g4, hXc, iur]
        rw [tI_t (fun h => hu (Or.inr (Or.inl h)))]
        simp (decide := true) (disch := omega) only [Option.bind_some, xasI, xasL, xasR, xin_t, cond_true, cond_false, nI_clamp, k_0, k_1, k_2, k_3, k_4, k_5, k_6, k_40, k_60, k_500, k_10000, pk_mul, nI_add, nI_e0, nI_ee, nI_leI, nI_ltI, xbool0, xbool1, xbn0, xbn1, xb_0, xb_1, reduceIte, one0, Option.isNone_none, ne_eq, not_true_eq_false, not_false_eq_true, if_true, if_false, ite_not, Bool.true_and, Bool.and_true, bq_74_58, bq_74_61, g4s, hXc, ius]
        rw [tI_t (fun h => hu (Or.inr (Or.inr h)))]
        simp (decide := true) (disch := omega) only [Option.bind_some, xasI, xasL, xasR, xin_t, cond_true, cond_false, nI_clamp, k_0, k_1, k_2, k_3, k_4, k_5, k_6, k_40, k_60, k_500, k_10000, pk_mul, nI_add, nI_e0, nI_ee, nI_leI, nI_ltI, xbool0, xbool1, xbn0, xbn1, xb_0, xb_1, reduceIte, one0, Option.isNone_none, ne_eq, not_true_eq_false, not_false_eq_true, if_true, if_false, ite_not, Bool.true_and, Bool.and_true, bq_74_70]
        -- the first holding
        obtain ⟨hc1, f, f1, f2, f3⟩ := H.2.2.1 (nu q 6 r) h66
        have hcc : xcls M hc1 3 = true := by
          obtain ⟨ar, gv, gs, oh, -⟩ := f2
          exact gC oh.1
        obtain ⟨M1, ow1, b1, f', ch1, H1, F2, F3, fb1, fo, t1⟩ := R_hold (T0 := T0) (MI := MI) (r := r) H B h66 hr f1 f2 f3
        have e80 : xZ T0 MI 92 0 [some (vr (some X)), some (vi (nI (nu q 6 r))), some (vi (nI r)), none] [] M = some (some (vr (some b1)), M1) := x_holdAt H.2.1 h66 f1 hcc ch1
        have pg21 := oPg_f pg2 t1 (fun t ht => by omega)
        have sp21 := isSpot_f sp2 t1 (fun t ht => by omega)
        have g4s1 := (sp_g sp21).2.2.2.2.2
        rw [h6s.1] at g4s1
        have hX1 := (ho_c H1.2.1).1
        rw [bq_74_80, Option.bind_some, g4, Option.bind_some, hXc, cond_true, e80]
        simp (decide := true) (disch := omega) only [Option.bind_some, xasI, xasL, xasR, xin_t, cond_true, cond_false, nI_clamp, k_0, k_1, k_2, k_3, k_4, k_5, k_6, k_40, k_60, k_500, k_10000, pk_mul, nI_add, nI_e0, nI_ee, nI_leI, nI_ltI, xbool0, xbool1, xbn0, xbn1, xb_0, xb_1, reduceIte, one0, Option.isNone_none, ne_eq, not_true_eq_false, not_false_eq_true, if_true, if_false, ite_not, Bool.true_and, Bool.and_true]
        rw [bq_74_90, Option.bind_some, g4s1, Option.bind_some, hX1, cond_true]
        by_cases hm : mgC q r s ∧ (L.1 (40 * nu q 6 r + r)).length + (L.1 (40 * nu q 6 r + s)).length ≤ 60
        · obtain ⟨hC, hl60⟩ := hm
          have hne : r ≠ s := by
            intro e
            subst e
            have l1 := (K.2.2.1 r hr h2).2
            have o1 := K.2.1 r hrn
            have : q.1 4 r = q.1 3 r := hC.2.2.1.elim id id
            unfold nu at l1
            rw [this] at l1
            omega
          have h66' := h66
          have F2' : rHost T0 M1 ow1 (nu q 6 s) hc1 f' q := by rw [← hC.2.2.2]; exact F2
          obtain ⟨M2, ow2, b2, f'', ch2, H2, G2, G3, fb2, fo2, t2⟩ := R_hold (T0 := T0) (MI := MI) (r := s) H1 B h66 hs f1 F2 F3
          have hcc1 : xcls M1 hc1 3 = true := by
            obtain ⟨ar, gv, gs, oh, -⟩ := F2
            exact gC oh.1
          have e90 : xZ T0 MI 92 0 [some (vr (some X)), some (vi (nI (nu q 6 s))), some (vi (nI s)), none] [] M1 = some (some (vr (some b2)), M2) := by
            rw [← hC.2.2.2]
            exact x_holdAt H1.2.1 h66 f1 hcc1 ch2
          have pgr2 := oPg_f (oPg_f pg t1 (fun t ht => by omega)) t2 (fun t ht => by omega)
          have pgs2 := oPg_f pg21 t2 (fun t ht => by omega)
          have m1 := (c_mg1 (T0 := T0) (MI := MI) (b1 := b1) (b2 := b2) (o8 := o8) (o9 := o9) (o10 := o10) (o11 := o11) H2 K hr hs ha hb (gR pgr2.1 0 rfl) (gR pgs2.1 0 rfl)).1 hC
          have fr2 : f'' r = some b1 := (fo2 r hne).trans fb1
          have N0 := G3 r hr
          rw [fr2] at N0
          have N1 := G3 s hs
          rw [fb2] at N1
          have e15 : q.1 15 (40 * nu q 6 r + r) = nI 1 := hC.1.2.2
          have e15s : q.1 15 (40 * nu q 6 r + s) = nI 1 := by rw [hC.2.2.2]; exact hC.2.1.2.2
          obtain ⟨M3, ow3, e3, H3, t3⟩ := R_merge (T0 := T0) (MI := MI) (o9 := o9) (o10 := o10) (o11 := o11) H2 B K hX hr hs hne h66 rfl hC.2.2.2.symm ha hb (gR pgr2.1 0 rfl) (gR pgs2.1 0 rfl) e15 e15s f1 G2 G3 fr2 fb2
          obtain ⟨ra, ka, sa, hh1, sn, R, K0, S, hA, ti⟩ := N0
          obtain ⟨rb, kb, sb, hh2, sn', R', K', S', hB, tj⟩ := N1
          have tR := (ti.2.2.1 (by rw [e15]; decide)).2.1
          have tR' := (tj.2.2.1 (by rw [e15s]; decide)).2.1
          have nC : ¬ (tI (gfree q r (nu q 6 r)) = 0 ∨ tI (gfree q s (nu q 6 s)) = 0 ∨ nu q 6 r ≠ nu q 6 s ∨ (q.1 4 r ≠ q.1 3 s ∧ q.1 4 s ≠ q.1 3 r) ∨ 60 < (L.1 (40 * nu q 6 r + r)).length + (L.1 (40 * nu q 6 r + s)).length) := by
            rw [tI_t hC.1, tI_t hC.2.1]
            rintro (h | h | h | h | h)
            · exact one0 h
            · exact one0 h
            · exact h hC.2.2.2
            · exact hC.2.2.1.elim h.1 h.2
            · omega
          rw [if_neg nC]
          refine ⟨M3, ow3, ?_, H3, stp_w (stp_tr (stp_tr (ext_of t1 (fun t ht => by omega) (Nat.le_refl _) (Nat.le_refl _)) (ext_of t2 (fun t ht => by omega) (Nat.le_refl _) (Nat.le_refl _))) t3) (fun _ h => h) (by omega) (by omega)⟩
          rw [e90]
          simp (decide := true) (disch := omega) only [Option.bind_some, xasI, xasL, xasR, xin_t, cond_true, cond_false, nI_clamp, k_0, k_1, k_2, k_3, k_4, k_5, k_6, k_40, k_60, k_500, k_10000, pk_mul, nI_add, nI_e0, nI_ee, nI_leI, nI_ltI, xbool0, xbool1, xbn0, xbn1, xb_0, xb_1, reduceIte, one0, Option.isNone_none, ne_eq, not_true_eq_false, not_false_eq_true, if_true, if_false, ite_not, Bool.true_and, Bool.and_true]
          rw [m1, bq_74_154, Option.bind_some, hA_4 hA, Option.bind_some, Option.bind_some, oR_sz hA.2.2.2.1, Option.bind_some, Option.bind_some, hA_4 hB, Option.bind_some, Option.bind_some, oR_sz hB.2.2.2.1, Option.bind_some, nI_add, k_60, if_pos (by rw [nI_leI (by rw [tR, tR']; omega) (by omega), tR, tR']; exact hl60)]
          exact e3
        · have nC : tI (gfree q r (nu q 6 r)) = 0 ∨ tI (gfree q s (nu q 6 s)) = 0 ∨ nu q 6 r ≠ nu q 6 s ∨ (q.1 4 r ≠ q.1 3 s ∧ q.1 4 s ≠ q.1 3 r) ∨ 60 < (L.1 (40 * nu q 6 r + r)).length + (L.1 (40 * nu q 6 r + s)).length := by
            by_cases c1 : gfree q r (nu q 6 r)
            · by_cases c2 : gfree q s (nu q 6 s)
              · by_cases c3 : q.1 4 r = q.1 3 s ∨ q.1 4 s = q.1 3 r
                · by_cases c4 : nu q 6 r = nu q 6 s
                  · refine Or.inr (Or.inr (Or.inr (Or.inr ?_)))
                    have : ¬ (L.1 (40 * nu q 6 r + r)).length + (L.1 (40 * nu q 6 r + s)).length ≤ 60 := fun h => hm ⟨⟨c1, c2, c3, c4⟩, h⟩
                    omega
                  · exact Or.inr (Or.inr (Or.inl c4))
                · exact Or.inr (Or.inr (Or.inr (Or.inl ⟨fun h => c3 (Or.inl h), fun h => c3 (Or.inr h)⟩)))
              · exact Or.inr (Or.inl (tI_f c2))
            · exact Or.inl (tI_f c1)
          rw [if_pos nC]
          -- the second holding, anywhere
          have hold2 : ∃ M2 ow2 b2, xZ T0 MI 92 0 [some (vr (some X)), some (vi (nI (nu q 6 s))), some (vi (nI s)), none] [] M1 = some (some (vr (some b2)), M2) ∧ Rep T0 X n ad fh fp cl ll dl aa pk q L M2 ow2 ∧ stp (fun t => ¬ (10 ≤ t.1 ∧ t.1 < 16) ∧ ¬ (100 ≤ t.1 ∧ t.1 < 340)) 11 229 ow1 M1 ow2 M2 ∧ (mgC q r s → ∃ n1 n2, xgetR M2 b1 2 4 = some (some n1) ∧ xgetI M2 n1 9 0 = some (nI (L.1 (40 * nu q 6 r + r)).length) ∧ xgetR M2 b2 2 4 = some (some n2) ∧ xgetI M2 n2 9 0 = some (nI (L.1 (40 * nu q 6 r + s)).length)) := by
            by_cases c4 : nu q 6 r = nu q 6 s
            · obtain ⟨M2, ow2, b2, f'', ch2, H2, G2, G3, fb2, fo2, t2⟩ := R_hold (T0 := T0) (MI := MI) (r := s) H1 B h66 hs f1 F2 F3
              have hcc1 : xcls M1 hc1 3 = true := by
                obtain ⟨ar, gv, gs, oh, -⟩ := F2
                exact gC oh.1
              refine ⟨M2, ow2, b2, ?_, H2, stp_w t2 (fun t ht => by omega) (Nat.le_refl _) (Nat.le_refl _), fun hC => ?_⟩
              · rw [← c4]
                exact x_holdAt H1.2.1 h66 f1 hcc1 ch2
              · have hne : r ≠ s := by
                  intro e
                  subst e
                  have l1 := (K.2.2.1 r hr h2).2
                  have : q.1 4 r = q.1 3 r := hC.2.2.1.elim id id
                  unfold nu at l1
                  rw [this] at l1
                  omega
                have N0 := G3 r hr
                rw [(fo2 r hne).trans fb1] at N0
                have N1 := G3 s hs
                rw [fb2] at N1
                have e15 : q.1 15 (40 * nu q 6 r + r) = nI 1 := hC.1.2.2
                have e15s : q.1 15 (40 * nu q 6 r + s) = nI 1 := by rw [hC.2.2.2]; exact hC.2.1.2.2
                obtain ⟨ra, ka, sa, hh1, sn, R, K0, S, hA, ti⟩ := N0
                obtain ⟨rb, kb, sb, hh2, sn', R', K', S', hB, tj⟩ := N1
                have tR := (ti.2.2.1 (by rw [e15]; decide)).2.1
                have tR' := (tj.2.2.1 (by rw [e15s]; decide)).2.1
                exact ⟨ra, rb, hA_4 hA, by rw [← tR]; exact oR_sz hA.2.2.2.1, hA_4 hB, by rw [← tR']; exact oR_sz hB.2.2.2.1⟩
            · obtain ⟨hc2, g, g1, g2, g3⟩ := H1.2.2.1 (nu q 6 s) h66s
              have hcc2 : xcls M1 hc2 3 = true := by
                obtain ⟨ar, gv, gs, oh, -⟩ := g2
                exact gC oh.1
              obtain ⟨M2, ow2, b2, f'', ch2, H2, G2, G3, fb2, fo2, t2⟩ := R_hold (T0 := T0) (MI := MI) (r := s) H1 B h66s hs g1 g2 g3
              exact ⟨M2, ow2, b2, x_holdAt H1.2.1 h66s g1 hcc2 ch2, H2, stp_w t2 (fun t ht => by omega) (Nat.le_refl _) (Nat.le_refl _), fun hC => absurd hC.2.2.2 c4⟩
          obtain ⟨M2, ow2, b2, e90, H2, t2, sz⟩ := hold2
          have pgr2 := oPg_f (oPg_f pg t1 (fun t ht => by omega)) t2 (fun t ht => by omega)
          have pgs2 := oPg_f pg21 t2 (fun t ht => by omega)
          obtain ⟨M', e, h, s5⟩ := P_ref (MI := MI) (i := 5) (x' := 0) (y' := 0) (x := Int32.ofInt (-5)) ⟨_, _, _, _, _, _, _, _, H2⟩ B (by decide) rfl
          refine ⟨M', ow2, ?_, h, stp_w (stp_tr (stp_tr (ext_of t1 (fun t ht => by omega) (Nat.le_refl _) (Nat.le_refl _)) (ext_of t2 (fun t ht => by omega) (Nat.le_refl _) (Nat.le_refl _))) s5) (fun _ h => h) (by omega) (by omega)⟩
          have m1 := c_mg1 (T0 := T0) (MI := MI) (b1 := b1) (b2 := b2) (o8 := o8) (o9 := o9) (o10 := o10) (o11 := o11) H2 K hr hs ha hb (gR pgr2.1 0 rfl) (gR pgs2.1 0 rfl)
          have hX2 := (ho_c H2.2.1).1
          have rf : ∀ o7' o8' : Option xV, xZ T0 MI 74 176 [some (vr (some X)), some (vi (nI r)), some (vi (nI s)), some (vr (some a)), some (vr (some b)), some (vr (some s1)), some (vr (some s2)), o7', o8', o9, o10, o11] [] M2 = some (some (vi (Int32.ofInt (-5))), M') := fun o7' o8' => by
            simp (decide := true) (disch := omega) only [Option.bind_some, xasI, xasL, xasR, xin_t, cond_true, cond_false, nI_clamp, k_0, k_1, k_2, k_3, k_4, k_5, k_6, k_40, k_60, k_500, k_10000, pk_mul, nI_add, nI_e0, nI_ee, nI_leI, nI_ltI, xbool0, xbool1, xbn0, xbn1, xb_0, xb_1, reduceIte, one0, Option.isNone_none, ne_eq, not_true_eq_false, not_false_eq_true, if_true, if_false, ite_not, Bool.true_and, Bool.and_true, bq_74_176, hX2, e, bq_74_182]
          rw [e90]
          simp (decide := true) (disch := omega) only [Option.bind_some, xasI, xasL, xasR, xin_t, cond_true, cond_false, nI_clamp, k_0, k_1, k_2, k_3, k_4, k_5, k_6, k_40, k_60, k_500, k_10000, pk_mul, nI_add, nI_e0, nI_ee, nI_leI, nI_ltI, xbool0, xbool1, xbn0, xbn1, xb_0, xb_1, reduceIte, one0, Option.isNone_none, ne_eq, not_true_eq_false, not_false_eq_true, if_true, if_false, ite_not, Bool.true_and, Bool.and_true]
          by_cases hC : mgC q r s
          · obtain ⟨n1, n2, z1, z2, z3, z4⟩ := sz hC
            have l1 := (hX.1.1 (40 * nu q 6 r + r) (by omega)).2.1
            have l2 := (hX.1.1 (40 * nu q 6 r + s) (by omega)).2.1
            rw [m1.1 hC, bq_74_154, Option.bind_some, z1, Option.bind_some, Option.bind_some, z2, Option.bind_some, Option.bind_some, z3, Option.bind_some, Option.bind_some, z4, Option.bind_some, nI_add, k_60, if_neg (by rw [nI_leI (by omega) (by omega)]; exact fun h => hm ⟨hC, h⟩), rf]
          · rw [m1.2 hC, rf]
