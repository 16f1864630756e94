/-! known -/
theorem knR_s (q : xrho) (h : Nat) (key : Int32) : ∀ m r o, knR q h key r (m + 1) o = if kno q h (r + m) key then some (r + m) else knR q h key r m o
  | 0, r, o => rfl
  | m + 1, r, o => by
    show knR q h key (r + 1) (m + 1) (if kno q h r key then some r else o) = _
    rw [knR_s q h key m (r + 1)]
    show _ = if kno q h (r + (m + 1)) key then some (r + (m + 1)) else knR q h key (r + 1) m (if kno q h r key then some r else o)
    rw [show r + 1 + m = r + (m + 1) by omega]
theorem knR_none {q : xrho} {h : Nat} {key : Int32} : ∀ m, (∀ s, s < m → ¬ kno q h s key) → knR q h key 0 m none = none
  | 0, _ => rfl
  | m + 1, hn => by
    rw [knR_s, Nat.zero_add, if_neg (hn m (by omega))]
    exact knR_none m (fun s hs => hn s (by omega))
theorem knR_some {q : xrho} {h s : Nat} {key : Int32} (hs : kno q h s key) : ∀ m, s < m → (∀ t, t < m → kno q h t key → t = s) → knR q h key 0 m none = some s
  | 0, h0, _ => absurd h0 (by omega)
  | m + 1, h0, hU => by
    rw [knR_s, Nat.zero_add]
    by_cases e : kno q h m key
    · rw [if_pos e, hU m (by omega) e]
    · rw [if_neg e]
      have : s ≠ m := fun e2 => e (by rw [← e2]; exact hs)
      exact knR_some hs m (by omega) (fun t ht => hU t (by omega))
theorem c_knownA {T0 MI h a ar gv : Nat} {M : xM} {ow : xOw} {f : Nat → Option Nat} {up key : Int32} {gs : List Nat} {q : xrho} {L : xLs} {pk : Nat → Option Nat} (H : oHs T0 M ow h a ar gv f up gs) (hh : h < 6) (hfs : ∀ r', r' < 40 → rHold M ow (f r') (40 * h + r') q L pk) : ∀ m r, r + m = 40 → ∀ o3, (∀ s, s < r → ¬ kno q h s key) → (∃ s, s < 40 ∧ kno q h s key ∧ ∃ M' ow', xZ T0 MI 29 2 [some (vr (some a)), some (vi key), some (vi (nI r)), o3] [] M = some (some (vr (some M.1)), M') ∧ isSpot M' ow' M.1 (nI s) (q.1 16 (40 * h + s)) (q.1 17 (40 * h + s)) (q.1 18 (40 * h + s)) (nI h) ∧ ∀ P, stp P 1 5 ow M ow' M') ∨ ((∀ s, s < 40 → ¬ kno q h s key) ∧ ∃ o2' o3', xZ T0 MI 29 2 [some (vr (some a)), some (vi key), some (vi (nI r)), o3] [] M = xZ T0 MI 29 73 [some (vr (some a)), some (vi key), o2', o3'] [] M) := by
  obtain ⟨h1, h2, -, ⟨b1, -⟩, -⟩ := H
  intro m
  induction m with
  | zero =>
    intro r hr o3 hn
    have : r = 40 := by omega
    subst this
    refine Or.inr ⟨hn, some (vi (nI 40)), o3, ?_⟩
    rw [bq_29_2, k_40, if_pos (by decide)]
  | succ m ih =>
    intro r hr o3 hn
    have hr40 : r < 40 := by omega
    have rd : xaR M ar (nI r) = some (f r) := by
      rw [aR h2 rfl, xin_t hr40 (by decide), cond_true, nI_clamp (by omega)]
    have hf := hfs r hr40
    rw [bq_29_2, k_40, if_neg (by rw [nI_leI (by omega) (by omega)]; omega), bq_29_8, gR h1 2 rfl, Option.bind_some, Option.bind_some, rd, Option.bind_some]
    have go : ¬ kno q h r key → ∀ o3', (∃ s, s < 40 ∧ kno q h s key ∧ ∃ M' ow', xZ T0 MI 29 67 [some (vr (some a)), some (vi key), some (vi (nI r)), o3'] [] M = some (some (vr (some M.1)), M') ∧ isSpot M' ow' M.1 (nI s) (q.1 16 (40 * h + s)) (q.1 17 (40 * h + s)) (q.1 18 (40 * h + s)) (nI h) ∧ ∀ P, stp P 1 5 ow M ow' M') ∨ ((∀ s, s < 40 → ¬ kno q h s key) ∧ ∃ o2' o3'', xZ T0 MI 29 67 [some (vr (some a)), some (vi key), some (vi (nI r)), o3'] [] M = xZ T0 MI 29 73 [some (vr (some a)), some (vi key), o2', o3''] [] M) := fun hk o3' => by
      rw [bq_29_67, nI_s]
      exact ih (r + 1) (by omega) o3' (fun s hs => by
        by_cases e : s = r
        · rw [e]; exact hk
        · exact hn s (by omega))
    cases hfr : f r with
    | none =>
      rw [hfr] at hf
      rw [Option.isNone_none, cond_true]
      exact go (fun e => by rcases e.1 with e | e <;> exact absurd (e.symm.trans hf.1) (by decide)) _
    | some b =>
      rw [hfr] at hf
      have st := hd_st hf
      obtain ⟨ra, ka, sa, hv, sn, R, K, S, hA, ti⟩ := hf
      rw [Option.isNone_some, cond_false, bq_29_19, Option.bind_some, st.2, cond_true, c_isServing st.1]
      simp (decide := true) (disch := omega) only [Option.bind_some, xasI, xasL, xasR, xin_t, cond_true, cond_false, nI_clamp, k_0, k_1, k_2, k_3, k_4, k_5, k_6, k_40, k_60, k_500, k_10000, pk_mul, nI_add, nI_e0, nI_ee, nI_leI, nI_ltI, xbool0, xbool1, xbn0, xbn1, xb_0, xb_1, reduceIte, one0, Option.isNone_none, ne_eq, not_true_eq_false, not_false_eq_true, if_true, if_false, ite_not, Bool.true_and, Bool.and_true]
      rw [bq_29_23]
      by_cases c1 : q.1 15 (40 * h + r) = nI 1 ∨ q.1 15 (40 * h + r) = nI 2
      · obtain ⟨⟨v1, v2, v3⟩, -, -⟩ := ti.2.2.1 (by rcases c1 with e | e <;> (rw [e]; decide))
        have e1 := hA_g hA 1 (by decide)
        rw [v1] at e1
        have e2 := hA_g hA 2 (by decide)
        rw [v2] at e2
        rw [tI_t c1, if_neg one0, bq_29_26, Option.bind_some, e1, Option.bind_some]
        by_cases c2 : key < q.1 16 (40 * h + r)
        · rw [if_pos c2]
          exact go (fun e => e.2.1 c2) _
        · rw [if_neg c2, bq_29_34, Option.bind_some, e2, Option.bind_some]
          by_cases c3 : q.1 17 (40 * h + r) ≤ key
          · rw [if_pos c3]
            exact go (fun e => e.2.2 c3) _
          · rw [if_neg c3]
            obtain ⟨M1, x1, s1, t1⟩ := c_newSp (T0 := T0) (MI := MI) (M := M) (ow := ow) (n := nI r) (lo := q.1 16 (40 * h + r)) (hi := q.1 17 (40 * h + r)) (e := q.1 18 (40 * h + r)) (h := nI h)
            have hc1 := newO_c (c := 10) hA.1 hA.2.2.1
            have ac1 := newO_c (c := 10) h1 b1
            refine Or.inl ⟨r, hr40, ⟨c1, c2, c3⟩, M1, _, ?_, s1, t1⟩
            rw [bq_29_42, Option.bind_some, gI hc1 1 rfl, Option.bind_some, Option.bind_some, gI hc1 2 rfl, Option.bind_some, Option.bind_some, gI hc1 3 rfl, Option.bind_some, gI ac1 0 rfl, Option.bind_some, v1, v2, v3, x1]
            simp (decide := true) (disch := omega) only [Option.bind_some, xasI, xasL, xasR, xin_t, cond_true, cond_false, nI_clamp, k_0, k_1, k_2, k_3, k_4, k_5, k_6, k_40, k_60, k_500, k_10000, pk_mul, nI_add, nI_e0, nI_ee, nI_leI, nI_ltI, xbool0, xbool1, xbn0, xbn1, xb_0, xb_1, reduceIte, one0, Option.isNone_none, ne_eq, not_true_eq_false, not_false_eq_true, if_true, if_false, ite_not, Bool.true_and, Bool.and_true]
            rw [bq_29_66]
      · rw [tI_f c1, if_pos rfl]
        exact go (fun e => c1 e.1) _
/-- the last of the given that has the key -/
def knL (q : xrho) (key : Int32) (l : List Nat) : Option Nat := l.foldl (fun o g => if ¬ key < q.1 40 g ∧ ¬ q.1 41 g ≤ key then some g else o) none
theorem knG_L (q : xrho) (h : Nat) (key : Int32) : ∀ n, knG q h key n = knL q key ((List.range n).filter (fun g => decide (q.1 38 g = nI h)))
  | 0 => rfl
  | n + 1 => by
    rw [List.range_succ, List.filter_append]
    show (if gvn q h n key then some n else knG q h key n) = _
    unfold knL
    rw [List.foldl_append]
    by_cases e : q.1 38 n = nI h
    · rw [show [n].filter (fun g => decide (q.1 38 g = nI h)) = [n] by simp [e]]
      show _ = if ¬ key < q.1 40 n ∧ ¬ q.1 41 n ≤ key then some n else _
      by_cases c : ¬ key < q.1 40 n ∧ ¬ q.1 41 n ≤ key
      · rw [if_pos c, if_pos ⟨e, c.1, Int32.not_le.mp c.2⟩]
      · rw [if_neg c, if_neg (fun z => c ⟨z.2.1, Int32.not_le.mpr z.2.2⟩), knG_L q h key n]
        rfl
    · rw [show [n].filter (fun g => decide (q.1 38 g = nI h)) = [] by simp [e], if_neg (fun z => e z.1), knG_L q h key n]
      rfl
theorem c_knownB {T0 MI h a ar gv : Nat} {M : xM} {ow : xOw} {f : Nat → Option Nat} {up key : Int32} {gs : List Nat} {q : xrho} (H : oHs T0 M ow h a ar gv f up gs) (og : gvT M ow gs q h) (hh : h < 6) : ∀ j, j ≤ gs.length → ∀ o3, ∃ o, xZ T0 MI 29 83 [some (vr (some a)), some (vi key), some (vi (nI j - nI 1)), o3] [] M = some (some (vr o), M) ∧ match knL q key ((gix q h).take j) with
    | none => o = none
    | some g => ∃ s, o = some s ∧ isSpot M ow s (q.1 39 g) (q.1 40 g) (q.1 41 g) (q.1 42 g) (q.1 43 g) := by
  obtain ⟨h1, h2, -, -, l1⟩ := H
  have hb := (oL_c l1).2.2.2
  intro j
  induction j with
  | zero =>
    intro _ o3
    refine ⟨none, ?_, rfl⟩
    rw [bq_29_83, if_pos (by decide), bq_29_115]
  | succ j ih =>
    intro hj o3
    have hjg : j < gs.length := by omega
    have hjx : j < (gix q h).length := by rw [← og.1]; exact hjg
    have sp := og.2 j hjg hjx
    have et : (gix q h).take (j + 1) = (gix q h).take j ++ [(gix q h)[j]] := by rw [List.take_succ_eq_append_getElem hjx]
    have ek : knL q key ((gix q h).take (j + 1)) = if ¬ key < q.1 40 (gix q h)[j] ∧ ¬ q.1 41 (gix q h)[j] ≤ key then some (gix q h)[j] else knL q key ((gix q h).take j) := by
      rw [et]
      unfold knL
      rw [List.foldl_append]
      rfl
    have e1 : nI (j + 1) - nI 1 = nI j := nI_s1 _
    have hs := c_has (T0 := T0) (MI := MI) (key := key) sp
    have st : xZ T0 MI 29 83 [some (vr (some a)), some (vi key), some (vi (nI (j + 1) - nI 1)), o3] [] M = xZ T0 MI 29 104 [some (vr (some a)), some (vi key), some (vi (nI j)), some (vr (some gs[j]))] [vi (tI (¬ key < q.1 40 (gix q h)[j] ∧ ¬ q.1 41 (gix q h)[j] ≤ key))] M := by
      rw [e1, bq_29_83, if_neg (nlt0 (by omega)), bq_29_87, gR h1 3 rfl, Option.bind_some, Option.bind_some, (oL_c l1).1, cond_true, oL_get (by omega) l1 hjg]
      simp (decide := true) (disch := omega) only [Option.bind_some, xasI, xasL, xasR, xin_t, cond_true, cond_false, nI_clamp, k_0, k_1, k_2, k_3, k_4, k_5, k_6, k_40, k_60, k_500, k_10000, pk_mul, nI_add, nI_e0, nI_ee, nI_leI, nI_ltI, xbool0, xbool1, xbn0, xbn1, xb_0, xb_1, reduceIte, one0, Option.isNone_none, ne_eq, not_true_eq_false, not_false_eq_true, if_true, if_false, ite_not, Bool.true_and, Bool.and_true]
      rw [bq_29_95]
      dsimp only
      rw [(sp_g sp).1, cond_true, cond_true, hs]
      simp (decide := true) (disch := omega) only [Option.bind_some, xasI, xasL, xasR, xin_t, cond_true, cond_false, nI_clamp, k_0, k_1, k_2, k_3, k_4, k_5, k_6, k_40, k_60, k_500, k_10000, pk_mul, nI_add, nI_e0, nI_ee, nI_leI, nI_ltI, xbool0, xbool1, xbn0, xbn1, xb_0, xb_1, reduceIte, one0, Option.isNone_none, ne_eq, not_true_eq_false, not_false_eq_true, if_true, if_false, ite_not, Bool.true_and, Bool.and_true]
    by_cases c : ¬ key < q.1 40 (gix q h)[j] ∧ ¬ q.1 41 (gix q h)[j] ≤ key
    · refine ⟨some gs[j], ?_, ?_⟩
      · rw [st, tI_t c, bq_29_104, if_neg one0, bq_29_107]
      · rw [ek, if_pos c]
        exact ⟨_, rfl, sp⟩
    · obtain ⟨o, e2, e3⟩ := ih (by omega) (some (vr (some gs[j])))
      refine ⟨o, ?_, by rw [ek, if_neg c]; exact e3⟩
      rw [st, tI_f c, bq_29_104, if_pos rfl, bq_29_109, dec1]
      exact e2
/-- what a host knows of a key: the spot told -/
theorem c_known {T0 MI X n h a : Nat} {ad : Nat → Nat} {fh fp : Nat → Option Nat} {cl ll dl : List Nat} {aa : Nat → Nat} {pk : Nat → Option Nat} {q : xrho} {L : xLs} {M : xM} {ow : xOw} {key : Int32} {o2 o3 : Option xV} (H : Rep T0 X n ad fh fp cl ll dl aa pk q L M ow) (B : bds q) (hh : h < 6) (ha : fh h = some a) (hz : stz q) (hU : ∀ s t, s < 40 → t < 40 → kno q h s key → kno q h t key → s = t) : ∃ M' ow' o, xZ T0 MI 29 0 [some (vr (some a)), some (vi key), o2, o3] [] M = some (some (vr o), M') ∧ (∀ P, stp P 1 5 ow M ow' M') ∧ match knR q h key 0 (nu q 12 0) none with
    | some s => ∃ sp, o = some sp ∧ s < 40 ∧ isSpot M' ow' sp (nI s) (q.1 16 (40 * h + s)) (q.1 17 (40 * h + s)) (q.1 18 (40 * h + s)) (nI h)
    | none => match knG q h key (nu q 44 0) with
      | none => o = none
      | some g => ∃ sp, o = some sp ∧ isSpot M' ow' sp (q.1 39 g) (q.1 40 g) (q.1 41 g) (q.1 42 g) (q.1 43 g) := by
  obtain ⟨a', f, f1, f2, f3⟩ := H.2.2.1 h hh
  rw [ha] at f1
  cases f1
  obtain ⟨ar, gv, gs, oh, og⟩ := f2
  have b12 := B.2.2.2.1.2
  have b44 := B.2.2.2.2.1.2
  have k12 : ∀ s, s < 40 → kno q h s key → s < nu q 12 0 := fun s hs hk => by
    apply Decidable.byContradiction
    intro hc
    have z := hz h s hh hs (by omega)
    rcases hk.1 with e | e <;> exact absurd (e.symm.trans z) (by decide)
  rcases c_knownA (T0 := T0) (MI := MI) (key := key) oh hh f3 40 0 (by omega) o3 (fun s hs => absurd hs (by omega)) with ⟨s, hs, hk, M', ow', e1, e2, e3⟩ | ⟨hn, o2', o3', e1⟩
  · refine ⟨M', ow', _, by rw [bq_29_0, k_0]; exact e1, e3, ?_⟩
    rw [knR_some hk (nu q 12 0) (k12 s hs hk) (fun t ht hkt => (hU s t hs (by omega) hk hkt).symm)]
    exact ⟨_, rfl, hs, e2⟩
  · have gl : gs.length ≤ 1100 := by
      have h1 : (gix q h).length ≤ nu q 44 0 := by
        unfold gix
        have := List.length_filter_le (fun g => decide (q.1 38 g = nI h)) (List.range (nu q 44 0))
        rw [List.length_range] at this
        exact this
      have := og.1
      omega
    obtain ⟨o, e2, e3⟩ := c_knownB (T0 := T0) (MI := MI) (key := key) oh og hh gs.length (Nat.le_refl _) o3'
    refine ⟨M, ow, o, ?_, fun P => stp_w (stp_rf _ _ _) (fun _ h => h) (by omega) (by omega), ?_⟩
    · rw [bq_29_0, k_0, e1, bq_29_73, gR oh.1 3 rfl, Option.bind_some, Option.bind_some, (oL_c oh.2.2.2.2).1, cond_true, oL_size oh.2.2.2.2]
      simp (decide := true) (disch := omega) only [Option.bind_some, xasI, xasL, xasR, xin_t, cond_true, cond_false, nI_clamp, k_0, k_1, k_2, k_3, k_4, k_5, k_6, k_40, k_60, k_500, k_10000, pk_mul, nI_add, nI_e0, nI_ee, nI_leI, nI_ltI, xbool0, xbool1, xbn0, xbn1, xb_0, xb_1, reduceIte, one0, Option.isNone_none, ne_eq, not_true_eq_false, not_false_eq_true, if_true, if_false, ite_not, Bool.true_and, Bool.and_true]
      rw [bq_29_80, k_1]
      exact e2
    · rw [knR_none (nu q 12 0) (fun s hs => hn s (by omega)), knG_L]
      rw [og.1, List.take_of_length_le (Nat.le_refl _)] at e3
      exact e3
