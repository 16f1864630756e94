/-! two holdings of one host changed; split -/
theorem Rep_hd2 {T0 X n x y h r s a : Nat} {ad : Nat → Nat} {fh fp : Nat → Option Nat} {cl ll dl : List Nat} {aa : Nat → Nat} {pk : Nat → Option Nat} {q q' : xrho} {L L' : xLs} {M M' : xM} {ow ow' : xOw} {f : Nat → Option Nat} (H : Rep T0 X n ad fh fp cl ll dl aa pk q L M ow) (B : bds q) (hh : h < 6) (hr : r < 40) (hs40 : s < 40) (ha : fh h = some a) (hf : rHost T0 M ow h a f q) (hfs : ∀ r', r' < 40 → rHold M ow (f r') (40 * h + r') q L pk) (hs : stp (fun t => t.1 ≠ 100 + (40 * h + r) ∧ t.1 ≠ 100 + (40 * h + s)) x y ow M ow' M') (hN : rHold M' ow' (f r) (40 * h + r) q' L' pk) (hN2 : rHold M' ow' (f s) (40 * h + s) q' L' pk) (e : ∀ k i, ¬ (15 ≤ k ∧ k ≤ 37) → q'.1 k i = q.1 k i) (e2 : ∀ k p, p ≠ 40 * h + r → p ≠ 40 * h + s → (15 ≤ k ∧ k ≤ 18) ∨ (21 ≤ k ∧ k ≤ 23) ∨ (29 ≤ k ∧ k ≤ 33) → q'.1 k p = q.1 k p) (eL : ∀ k i, k ≠ 27 → k ≠ 37 → q'.2 k i = q.2 k i) (l1 : ∀ p, p ≠ 40 * h + r → p ≠ 40 * h + s → L'.1 p = L.1 p) (l2 : ∀ p, p ≠ 40 * h + r → p ≠ 40 * h + s → L'.2.1 p = L.2.1 p) (l3 : ∀ p c, p ≠ 40 * h + r → p ≠ 40 * h + s → c < 6 → L'.2.2.1 (6 * p + c) = L.2.2.1 (6 * p + c)) (l4 : L'.2.2.2 = L.2.2.2) : Rep T0 X n ad fh fp cl ll dl aa pk q' L' M' ow' := by
  obtain ⟨H0, H1, H2, H3, H4, H5, H6, H7⟩ := H
  have hll : ll.length ≤ 1200 := by rw [H6.1]; exact B.2.2.1.2
  have hcl : cl.length ≤ 6 := by rw [H4.1]; exact B.1.2
  have hsm : ∀ p, p ≠ 40 * h + r → p ≠ 40 * h + s → hsame q L pk p q' L' pk := fun p hp hp2 => ⟨fun k hk => e2 k p hp hp2 hk, l1 p hp hp2, l2 p hp hp2, fun c hc => l3 p c hp hp2 hc, fun _ _ => rfl⟩
  refine ⟨hs.2.1.2 H0, FH_f H1 hs (fun t a => ?_) (fun t a => ?_) (fun k i a b => e k i (by omega)) (fun k i a b => e k i (by omega)), fun j hj => ?_, FP_f H3 hs (fun t a b => ?_) (fun t a => ?_) (fun k i a b => e k i (by omega)), FC_f H4 hcl hs (fun t a b => ?_) (fun t a => ?_) (fun t a => ?_) (fun k i a b => e k i (by omega)) (fun k i a b => e k i (by omega)) (Nat.le_refl _), FA_f H5 B.1.2 (fun c hc => (B.2.1 c hc).2) hs (fun t a b => ?_) (fun k i a b => e k i (by omega)) (fun k i a b => eL k i (by omega) (by omega)), FL_f H6 hll hs (fun t a b => ?_) (fun t a => ?_) (e 82 0 (by omega)) (fun l hl => ls_of (fun k i a b => e k i (by omega)) (fun k i a b => eL k i (by omega) (by omega)) (fun _ _ => by rw [l4])), FD_f H7 (fun k i a b => e k i (by omega)) (fun k i a b c _ => e k i (by omega))⟩
  any_goals omega
  by_cases ej : j = h
  · subst ej
    refine ⟨a, f, ha, rHost_f hf hs (fun t ht => by omega) (fun t ht => by omega) (fun t ht => by omega) (e 0 j (by omega)) (fun k i a b => e k i (by omega)), fun r' hr' => ?_⟩
    by_cases er : r' = r
    · subst er
      exact hN
    · by_cases es : r' = s
      · subst es
        exact hN2
      · exact rHold_f (hfs r' hr') hs (fun t ht => by omega) (hsm _ (by omega) (by omega))
  · obtain ⟨a2, f2, g1, g2, g3⟩ := H2 j hj
    refine ⟨a2, f2, g1, rHost_f g2 hs (fun t ht => by omega) (fun t ht => by omega) (fun t ht => by omega) (e 0 j (by omega)) (fun k i a b => e k i (by omega)), fun r' hr' => ?_⟩
    have ne : 40 * j + r' ≠ 40 * h + r := by rcases Nat.lt_or_gt_of_ne ej with h | h <;> omega
    have ne2 : 40 * j + r' ≠ 40 * h + s := by rcases Nat.lt_or_gt_of_ne ej with h | h <;> omega
    exact rHold_f (g3 r' hr') hs (fun t ht => by omega) (hsm _ ne ne2)
theorem x_host {T0 MI X h a : Nat} {M : xM} {ow : xOw} {ad : Nat → Nat} {fh fp : Nat → Option Nat} {cl ll dl : List Nat} {q : xrho} (H : FH T0 M ow X ad fh fp cl ll dl q) (hh : h < 6) (f1 : fh h = some a) : xZ T0 MI 88 0 [some (vr (some X)), some (vi (nI h))] [] M = some (some (vr (some a)), M) := by
  have := c_hostOf (T0 := T0) (MI := MI) (x := nI h) H
  rw [ix_i hh (by decide), Option.bind_some, f1] at this
  exact this
theorem x_holdAt {T0 MI X h r a : Nat} {M M' : xM} {ow : xOw} {ad : Nat → Nat} {fh fp : Nat → Option Nat} {cl ll dl : List Nat} {q : xrho} {o : Option Nat} {o3 : Option xV} (H : FH T0 M ow X ad fh fp cl ll dl q) (hh : h < 6) (f1 : fh h = some a) (hc : xcls M a 3 = true) (e : xZ T0 MI 28 0 [some (vr (some a)), some (vi (nI r))] [] M = some (some (vr o), M')) : xZ T0 MI 92 0 [some (vr (some X)), some (vi (nI h)), some (vi (nI r)), o3] [] M = some (some (vr o), M') := by
  rw [bq_92_0, (ho_c H).1, cond_true, x_host H hh f1]
  simp (decide := true) (disch := omega) only [Option.bind_some, xasI, xasL, xasR, xin_t, cond_true, cond_false, nI_clamp, k_0, k_1, k_2, k_3, k_4, k_5, k_6, k_40, k_60, k_500, k_10000, pk_mul, nI_add, nI_e0, nI_ee, nI_leI, nI_ltI, xbool0, xbool1, xbn0, xbn1, xb_0, xb_1, reduceIte, one0, Option.isNone_none, ne_eq, not_true_eq_false, not_false_eq_true, if_true, if_false, ite_not, Bool.true_and, Bool.and_true, Option.isNone_some, bq_92_5, bq_92_14, hc, e, bq_92_19]
/-- the array of pages -/
theorem oHo_p {T0 X i : Nat} {M : xM} {ow : xOw} {ad : Nat → Nat} {fh fp : Nat → Option Nat} {cl ll dl : List Nat} {mk ov un : Int32} {g : Nat → Int32} {v : Option Nat} (H : oHo T0 M ow X ad fh fp cl ll dl mk ov un g) (hi : i < 40) (hv : xmayR M 5 v = true) : ∃ M', xsR M (ad 1) (nI i) v = some M' ∧ oHo T0 M' ow X ad fh (va_up fp i v) cl ll dl mk ov un g ∧ stp (fun t => t ≠ (1, 2)) 0 0 ow M ow M' := by
  obtain ⟨h1, h2, h3, h4, ⟨o1, o2, o3, o4⟩, b, l1, l2, l3⟩ := H
  have hs : stp (fun t => t ≠ (1, 2)) 0 0 ow M ow (xset M (ad 1) (.inl (5, 40, .inr (.inr (va_up fp i v))))) := stp_set (by rw [o3]; exact fun h => h rfl)
  refine ⟨_, ?_, ⟨?_, ?_, xset_at _ _ _, ?_, ⟨o1, o2, o3, o4⟩, b, oList_f l1 hs (fun t ht e => ?_) (fun t ht e => ?_), oList_f l2 hs (fun t ht e => ?_) (fun t ht e => ?_), oList_f l3 hs (fun t ht e => ?_) (fun t ht e => ?_)⟩, hs⟩
  · rw [sR h3 rfl, xin_t hi (by decide), hv, nI_clamp (by omega)]
    rfl
  · rw [xset_ne _ _ (ow_ne o1 o3 (by simp))]; exact h1
  · rw [xset_ne _ _ (ow_ne o2 o3 (by simp))]; exact h2
  · rw [xset_ne _ _ (ow_ne o4 o3 (by simp))]; exact h4
  · rw [e] at ht; exact absurd ht.2.1 (by decide)
  · rw [e] at ht; exact absurd ht (by decide)
  · rw [e] at ht; exact absurd ht.2.1 (by decide)
  · rw [e] at ht; exact absurd ht (by decide)
  · rw [e] at ht; exact absurd ht.2.1 (by decide)
  · rw [e] at ht; exact absurd ht (by decide)
theorem xdef7 : xdef 7 = [vr none, vi 0, vi 0, vi 0, vi 0, vi 0] := by decide
/-- the page's spot replaced -/
theorem pg_spot {r a s s' : Nat} {M : xM} {ow : xOw} {gi ta mv uw od : Int32} (H : oPg M ow r a s gi ta mv uw od) : ∃ M', xput M a 7 0 (vr (some s')) = some M' ∧ oPg M' ow r a s' gi ta mv uw od ∧ stp (fun t => t.1 ≠ 400 + r) 0 0 ow M ow M' := by
  obtain ⟨h1, o, b⟩ := H
  exact ⟨_, pV h1 0 rfl (vr (some s')), ⟨xset_at _ _ _, o, b⟩, stp_set (by rw [o]; exact fun h => h rfl)⟩
theorem oPg_f {P : Nat × Nat → Prop} {x y r a s : Nat} {ow ow' : xOw} {M M' : xM} {gi ta mv uw od : Int32} (H : oPg M ow r a s gi ta mv uw od) (hs : stp P x y ow M ow' M') (hP : ∀ t : Nat × Nat, t.1 = 400 + r → P t) : oPg M' ow' r a s gi ta mv uw od := by
  obtain ⟨h1, o, b⟩ := H
  have c := hs.2.2.2 a b
  exact ⟨(c.2 (hP _ (by rw [o]))).trans h1, c.1.trans o, by have := hs.1; omega⟩
/-- the end of split: from the cut on -/
theorem c_spe {T0 MI X r nn a s : Nat} {M : xM} {ow : xOw} {ad : Nat → Nat} {fh fp : Nat → Option Nat} {cl ll dl : List Nat} {ov un : Int32} {g : Nat → Int32} {gi ta mv uw od lo hi e hm key e' : Int32} {o1 o5 o6 : Option xV} (ho : oHo T0 M ow X ad fh fp cl ll dl (nI nn) ov un g) (hr : r < 40) (hn : nn < 40) (hne : r ≠ nn) (pg : oPg M ow r a s gi ta mv uw od) (sp : isSpot M ow s (nI r) lo hi e hm) : ∃ M' ow' sr an sn, xZ T0 MI 73 168 [some (vr (some X)), some (vi (nI r)), some (vi key), some (vr (some a)), some (vr (some s)), o5, o6, some (vi e')] [] M = some (some (vi (nI nn)), M') ∧ oHo T0 M' ow' X ad fh (va_up fp nn (some an)) cl ll dl (nI (nn + 1)) ov un g ∧ oPg M' ow' r a sr gi ta mv uw od ∧ isSpot M' ow' sr (nI r) lo key e' hm ∧ oPg M' ow' nn an sn 0 0 0 0 0 ∧ isSpot M' ow' sn (nI nn) key hi e' hm ∧ stp (fun t => t.1 ≠ 1 ∧ t.1 ≠ 400 + r ∧ t.1 ≠ 400 + nn) 3 16 ow M ow' M' := by
  -- the first spot
  obtain ⟨M2, e2, s2, t2⟩ := c_newSp (T0 := T0) (MI := MI) (M := M) (ow := ow) (n := nI r) (lo := lo) (hi := key) (e := e') (h := hm)
  have sp0 := newO_c (c := 10) sp.1 sp.2.2
  have ho2 := oHo_f ho (t2 (fun _ => True)) (fun _ _ => trivial) (fun _ _ => trivial)
  have pg2 := oPg_f pg (t2 (fun _ => True)) (fun _ _ => trivial)
  have spo2 := isSpot_f sp (t2 (fun _ => True)) (fun _ _ => trivial)
  -- the page's spot
  obtain ⟨M3, e3, pg3, t3⟩ := pg_spot (s' := M.1) pg2
  have ho3 := oHo_f ho2 t3 (fun t h => by omega) (fun t h => by omega)
  have s3 := isSpot_f s2 t3 (fun t h => by omega)
  have spo3 := isSpot_f spo2 t3 (fun t h => by omega)
  -- the new page
  have t4 : ∀ P, stp P 1 6 (va_up ow M.1 (9999, 0)) M3 (va_up (va_up ow M.1 (9999, 0)) M3.1 (400 + nn, 0)) (xnewO M3 7) := fun P => newO_f (c := 7) (o := (400 + nn, 0)) P (fun _ => by show 400 + nn < _; omega) (by decide)
  have ho4 := oHo_f ho3 (t4 (fun _ => True)) (fun _ _ => trivial) (fun _ _ => trivial)
  have pg4 := oPg_f pg3 (t4 (fun _ => True)) (fun _ _ => trivial)
  have s4 := isSpot_f s3 (t4 (fun _ => True)) (fun _ _ => trivial)
  have spo4 := isSpot_f spo3 (t4 (fun _ => True)) (fun _ _ => trivial)
  have np4 : (xnewO M3 7).2.2 M3.1 = .inr (7, [vr none, vi 0, vi 0, vi 0, vi 0, vi 0]) := by rw [newO_at, xdef7]
  -- its spot
  obtain ⟨M5, e5, s5, t5⟩ := c_newSp (T0 := T0) (MI := MI) (M := xnewO M3 7) (ow := va_up (va_up ow M.1 (9999, 0)) M3.1 (400 + nn, 0)) (n := nI nn) (lo := key) (hi := hi) (e := e') (h := hm)
  have spo5 := newO_c (c := 10) spo4.1 spo4.2.2
  have hX5 := newO_c (c := 10) ho4.1 ho4.2.2.2.2.2.1.1
  have ho5 := oHo_f ho4 (t5 (fun _ => True)) (fun _ _ => trivial) (fun _ _ => trivial)
  have pg5 := oPg_f pg4 (t5 (fun _ => True)) (fun _ _ => trivial)
  have s45 := isSpot_f s4 (t5 (fun _ => True)) (fun _ _ => trivial)
  have np5 := (t5 (fun _ => True)).2.2.2 M3.1 (Nat.lt_succ_self _)
  have np5' : M5.2.2 M3.1 = .inr (7, [vr none, vi 0, vi 0, vi 0, vi 0, vi 0]) := (np5.2 trivial).trans np4
  have no5 : (va_up (va_up (va_up ow M.1 (9999, 0)) M3.1 (400 + nn, 0)) (xnewO M3 7).1 (9999, 0)) M3.1 = (400 + nn, 0) := np5.1.trans (va_up_self _ _ _)
  have nb5 : M3.1 < M5.1 := by
    have h1 := (t5 (fun _ => True)).1
    have h2 : M3.1 < (xnewO M3 7).1 := Nat.lt_succ_self _
    omega
  -- the page has it
  have t6 : stp (fun t => t.1 ≠ 400 + nn) 0 0 (va_up (va_up (va_up ow M.1 (9999, 0)) M3.1 (400 + nn, 0)) (xnewO M3 7).1 (9999, 0)) M5 (va_up (va_up (va_up ow M.1 (9999, 0)) M3.1 (400 + nn, 0)) (xnewO M3 7).1 (9999, 0)) (xset M5 M3.1 (.inr (7, [vr (some (xnewO M3 7).1), vi 0, vi 0, vi 0, vi 0, vi 0]))) := stp_set (by rw [no5]; exact fun h => h rfl)
  have ho6 := oHo_f ho5 t6 (fun t h => by omega) (fun t h => by omega)
  have pg6 := oPg_f pg5 t6 (fun t h => by omega)
  have s6 := isSpot_f s45 t6 (fun t h => by omega)
  have sn6 := isSpot_f s5 t6 (fun t h => by omega)
  have pn6 : oPg (xset M5 M3.1 (.inr (7, [vr (some (xnewO M3 7).1), vi 0, vi 0, vi 0, vi 0, vi 0]))) (va_up (va_up (va_up ow M.1 (9999, 0)) M3.1 (400 + nn, 0)) (xnewO M3 7).1 (9999, 0)) nn M3.1 (xnewO M3 7).1 0 0 0 0 0 := ⟨xset_at _ _ _, no5, nb5⟩
  -- the array, the number
  obtain ⟨M7, e7, ho7, t7⟩ := oHo_p (i := nn) (v := some M3.1) ho6 hn (mayR pn6.1 rfl)
  obtain ⟨M8, e8, ho8, t8⟩ := oHo_w (mk' := nI (nn + 1)) (ov' := ov) (un' := un) ho7 6 (vi (nI (nn + 1))) (by decide) rfl
  have t78 : stp (fun t => t.1 ≠ 1) 0 0 _ _ _ M8 := stp_tr (stp_w t7 (fun t ht e => ht (by rw [e])) (Nat.le_refl _) (Nat.le_refl _)) (stp_w t8 (fun t ht e => ht (by rw [e])) (Nat.le_refl _) (Nat.le_refl _))
  refine ⟨M8, _, M.1, M3.1, (xnewO M3 7).1, ?_, ho8, oPg_f pg6 t78 (fun t h => by omega), isSpot_f s6 t78 (fun t h => by omega), oPg_f pn6 t78 (fun t h => by omega), isSpot_f sn6 t78 (fun t h => by omega), ?_⟩
  · rw [bq_73_168, Option.bind_some, gI sp0 1 rfl, Option.bind_some, Option.bind_some, gI sp0 4 rfl, Option.bind_some, e2]
    simp (decide := true) (disch := omega) only [Option.bind_some, xasI, xasL, xasR, xin_t, cond_true, cond_false, nI_clamp, k_0, k_1, k_2, k_3, k_4, k_5, k_6, k_40, k_60, k_500, k_10000, pk_mul, nI_add, nI_e0, nI_ee, nI_leI, nI_ltI, xbool0, xbool1, xbn0, xbn1, xb_0, xb_1, reduceIte, one0, Option.isNone_none, ne_eq, not_true_eq_false, not_false_eq_true, if_true, if_false, ite_not, Bool.true_and, Bool.and_true]
    rw [bq_73_190, Option.bind_some, e3, Option.bind_some, gR ho3.1 1 rfl, Option.bind_some, gI ho3.1 6 rfl, Option.bind_some, gI hX5 6 rfl, Option.bind_some, Option.bind_some, gI spo5 2 rfl, Option.bind_some, Option.bind_some, gI spo5 4 rfl, Option.bind_some, e5]
    simp (decide := true) (disch := omega) only [Option.bind_some, xasI, xasL, xasR, xin_t, cond_true, cond_false, nI_clamp, k_0, k_1, k_2, k_3, k_4, k_5, k_6, k_40, k_60, k_500, k_10000, pk_mul, nI_add, nI_e0, nI_ee, nI_leI, nI_ltI, xbool0, xbool1, xbn0, xbn1, xb_0, xb_1, reduceIte, one0, Option.isNone_none, ne_eq, not_true_eq_false, not_false_eq_true, if_true, if_false, ite_not, Bool.true_and, Bool.and_true]
    rw [bq_73_229, bq_47_0, pV np5' 0 rfl]
    simp (decide := true) (disch := omega) only [Option.bind_some, xasI, xasL, xasR, xin_t, cond_true, cond_false, nI_clamp, k_0, k_1, k_2, k_3, k_4, k_5, k_6, k_40, k_60, k_500, k_10000, pk_mul, nI_add, nI_e0, nI_ee, nI_leI, nI_ltI, xbool0, xbool1, xbn0, xbn1, xb_0, xb_1, reduceIte, one0, Option.isNone_none, ne_eq, not_true_eq_false, not_false_eq_true, if_true, if_false, ite_not, Bool.true_and, Bool.and_true]
    rw [bq_73_232, Option.bind_some]
    rw [show xset M5 M3.1 (.inr (7, [vr none, vi 0, vi 0, vi 0, vi 0, vi 0].set 0 (vr (some (xnewO M3 7).1)))) = xset M5 M3.1 (.inr (7, [vr (some (xnewO M3 7).1), vi 0, vi 0, vi 0, vi 0, vi 0])) from rfl, e7, Option.bind_some, gI ho7.1 6 rfl, Option.bind_some, nI_s, e8, Option.bind_some, gI ho8.1 6 rfl, Option.bind_some, k_1, nI_s1]
  · have w1 := stp_w (t2 (fun t => t.1 ≠ 1 ∧ t.1 ≠ 400 + r ∧ t.1 ≠ 400 + nn)) (fun _ h => h) (Nat.le_refl _) (Nat.le_refl _)
    have w2 := stp_tr w1 (stp_w t3 (fun t h => h.2.1) (Nat.le_refl _) (Nat.le_refl _))
    have w3 := stp_tr w2 (t4 _)
    have w4 := stp_tr w3 (t5 _)
    have w5 := stp_tr w4 (stp_w t6 (fun t h => h.2.2) (Nat.le_refl _) (Nat.le_refl _))
    have w6 := stp_tr w5 (stp_w t78 (fun t h => h.1) (Nat.le_refl _) (Nat.le_refl _))
    exact w6
