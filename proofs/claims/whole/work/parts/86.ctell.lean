/-! tellBook -/
def bkF (q : xrho) : Nat → Nat → List SV
  | _, 0 => []
  | r, m + 1 => if q.1 2 r = 0 then bkF q (r + 1) m else (nI r, nu q 3 r, nu q 4 r, q.1 5 r, q.1 6 r) :: bkF q (r + 1) m
theorem bkF_len (q : xrho) : ∀ m r, (bkF q r m).length ≤ m
  | 0, _ => Nat.le_refl _
  | m + 1, r => by
    unfold bkF
    have := bkF_len q m (r + 1)
    by_cases h : q.1 2 r = 0
    · rw [if_pos h]; omega
    · rw [if_neg h, List.length_cons]; omega
theorem oCa_l1 {T0 c a cp ak x y : Nat} {M M' : xM} {ow ow' : xOw} {cs as cs' : List Nat} (H : oCa T0 M ow c a cp ak cs as) (hl : oList T0 M' ow' (500 + c) 1 cp cs') (hs : stp (fun t => ¬ inP (500 + c) 1 2 t) x y ow M ow' M') : oCa T0 M' ow' c a cp ak cs' as := by
  obtain ⟨h1, o1, b1, l1, l2⟩ := H
  refine ⟨?_, ?_, ?_, hl, oList_f l2 hs (fun t ht e => ?_) (fun t ht e => ?_)⟩
  · rw [(hs.2.2.2 _ b1).2 (by rw [o1]; exact fun e => absurd e.2.1 (by simp))]; exact h1
  · rw [(hs.2.2.2 _ b1).1]; exact o1
  · have := hs.1; omega
  · have := ht.2.1; have := e.2.2; omega
  · have := e.1; omega
theorem sps_snoc {M : xM} {ow : xOw} {cs : List Nat} {vs : List SV} {s : Nat} {v : SV} (H : sps M ow cs vs) (h : isSpot M ow s v.1 (nI v.2.1) (nI v.2.2.1) v.2.2.2.1 v.2.2.2.2) : sps M ow (cs ++ [s]) (vs ++ [v]) := by
  obtain ⟨h1, h2⟩ := H
  refine ⟨by simp [h1], fun i i1 i2 => ?_⟩
  rw [List.length_append, List.length_singleton] at i1
  by_cases e : i < cs.length
  · rw [List.getElem_append_left e, List.getElem_append_left (by omega)]
    exact h2 i e (by omega)
  · have e1 : i = cs.length := by omega
    subst e1
    rw [List.getElem_append_right (by omega), List.getElem_append_right (by omega)]
    simp only [Nat.sub_self, h1, List.getElem_singleton]
    exact h
theorem sps_obj {M : xM} {ow : xOw} {cs : List Nat} {vs : List SV} (H : sps M ow cs vs) : ∀ e ∈ cs, isObj M e ∧ e < M.1 ∧ ow e = (9999, 0) := fun e he => by
  obtain ⟨i, hi, rfl⟩ := List.getElem_of_mem he
  have := H.2 i hi (by rw [← H.1]; exact hi)
  exact ⟨⟨10, _, this.1, by decide⟩, this.2.2, this.2.1⟩
theorem c_tell_l {T0 MI X c a cp ak : Nat} {ad : Nat → Nat} {fh fp : Nat → Option Nat} {cl ll dl : List Nat} {q : xrho} {as : List Nat} (hc : c < 6) (h12 : isN q 12 0 40) (hsp : ∀ r, r < nu q 12 0 → okSp q r) : ∀ m i, i + m = nu q 12 0 → ∀ (M : xM) (ow : xOw) (cs : List Nat) (vs : List SV) (o3 : Option xV), FH T0 M ow X ad fh fp cl ll dl q → FP M ow fp q → oCa T0 M ow c a cp ak cs as → sps M ow cs vs → vs.length ≤ i → ∃ M' ow' cs', xZ T0 MI 100 9 [some (vr (some X)), some (vr (some a)), some (vi (nI i)), o3] [] M = some (none, M') ∧ oCa T0 M' ow' c a cp ak cs' as ∧ sps M' ow' cs' (vs ++ bkF q i m) ∧ stp (fun t => ¬ inP (500 + c) 1 2 t) m (90 * m) ow M ow' M' := by
  have hn := h12.2
  intro m
  induction m with
  | zero =>
    intro i hi M ow cs vs o3 HH HP H hS hl
    refine ⟨M, ow, cs, ?_, H, by rw [show bkF q i 0 = [] from rfl, List.append_nil]; exact hS, stp_rf _ _ _⟩
    rw [bq_100_9, (ho_c HH).2.2.2.2.2.2.2.1, Option.bind_some, h12.1, if_pos (by rw [nI_leI (by omega) (by omega)]; omega), bq_100_46]
  | succ m ih =>
    intro i hi M ow cs vs o3 HH HP H hS hl
    have hir : i < 40 := by omega
    have st : xZ T0 MI 100 9 [some (vr (some X)), some (vr (some a)), some (vi (nI i)), o3] [] M = bif (fp i).isNone then xZ T0 MI 100 40 [some (vr (some X)), some (vr (some a)), some (vi (nI i)), some (vr (fp i))] [] M else xZ T0 MI 100 28 [some (vr (some X)), some (vr (some a)), some (vi (nI i)), some (vr (fp i))] [] M := by
      rw [bq_100_9, (ho_c HH).2.2.2.2.2.2.2.1, Option.bind_some, h12.1, if_neg (by rw [nI_leI (by omega) (by omega)]; omega), bq_100_17, (ho_c HH).2.2.1, Option.bind_some, Option.bind_some, ho_p HH hir, Option.bind_some]
    have hp := HP i hir
    rw [st]
    unfold bkF
    cases ho : fp i with
    | none =>
      rw [ho] at hp
      have hp : q.1 2 i = 0 := hp
      rw [if_pos hp]
      obtain ⟨M', ow', cs', e1, e2, e3, e4⟩ := ih (i + 1) (by omega) M ow cs vs (some (vr none)) HH HP H hS (by omega)
      refine ⟨M', ow', cs', ?_, e2, e3, stp_w e4 (fun _ h => h) (by omega) (by omega)⟩
      rw [Option.isNone_none, cond_true, bq_100_40, nI_s, e1]
    | some b =>
      rw [ho] at hp
      obtain ⟨h2, s, gi, ta, uw, ⟨h3, -, -⟩, h4, -⟩ := hp
      have hne : ¬ q.1 2 i = 0 := by rw [h2]; exact one0
      rw [if_neg hne]
      have hcl : cs.length ≤ 40 := by have := hS.1; omega
      have hEl := sps_obj hS
      have l1 := H.2.2.2.1
      have ocp := (oL_c l1).2.1
      obtain ⟨M1, ow1, e1, l1', s1⟩ := oL_add (T0 := T0) (MI := MI) (v := s) (by omega) l1 (by omega) ⟨10, _, h4.1, by decide⟩ h4.2.2 (ow_ne h4.2.1 ocp (by simp)) (fun e he => ⟨(hEl e he).1, (hEl e he).2.1, ow_ne (hEl e he).2.2 ocp (by simp)⟩)
      have H1 := oCa_l1 H l1' s1
      have p9 : ∀ t : Nat × Nat, t.1 = 9999 → ¬ inP (500 + c) 1 (1 + 1) t := fun t ht e => by have := e.1; omega
      have hS1 := sps_f hS s1 p9
      have h41 := isSpot_f h4 s1 p9
      have okr := hsp i (by omega)
      have hS2 := sps_snoc (v := (nI i, nu q 3 i, nu q 4 i, q.1 5 i, q.1 6 i)) hS1 (by
        show isSpot M1 ow1 s (nI i) (nI (nu q 3 i)) (nI (nu q 4 i)) (q.1 5 i) (q.1 6 i)
        unfold nu
        rw [← okr.1, ← okr.2.1]
        exact h41)
      obtain ⟨M', ow', cs', e2, e3, e4, e5⟩ := ih (i + 1) (by omega) M1 ow1 (cs ++ [s]) (vs ++ [(nI i, nu q 3 i, nu q 4 i, q.1 5 i, q.1 6 i)]) (some (vr (some b))) (FH_f HH s1 (fun t ht e => by have := e.1; omega) (fun t ht e => by have := e.1; omega) (qe_rf _ _ _) (qe_rf _ _ _)) (FP_f HP s1 (fun t t1 t2 e => by have := e.1; omega) p9 (qe_rf _ _ _)) H1 hS2 (by rw [List.length_append, List.length_singleton]; omega)
      refine ⟨M', ow', cs', ?_, e3, ?_, stp_w (stp_tr s1 e5) (fun _ h => h) (by omega) (by omega)⟩
      · rw [Option.isNone_some, cond_false, bq_100_28, Option.bind_some, gR H.1 1 rfl, Option.bind_some, Option.bind_some, gR h3 0 rfl, Option.bind_some, Option.bind_some, (oL_c l1).1, cond_true, e1]
        simp (decide := true) (disch := omega) only [Option.bind_some, xasI, xasL, xasR, xin_t, cond_true, cond_false, nI_clamp, k_0, k_1, k_2, k_3, k_4, k_5, k_6, k_40, k_60, k_500, k_10000, pk_mul, nI_add, nI_e0, nI_ee, nI_leI, nI_ltI, xbool0, xbool1, xbn0, xbn1, xb_0, xb_1, reduceIte, one0, Option.isNone_none, ne_eq, not_true_eq_false, not_false_eq_true, if_true, if_false, ite_not, Bool.true_and, Bool.and_true]
        rw [bq_100_39, bq_100_40, nI_s, e2]
      · rw [List.append_assoc] at e4
        exact e4
theorem c_tell {T0 MI X c a cp ak : Nat} {ad : Nat → Nat} {fh fp : Nat → Option Nat} {cl ll dl : List Nat} {q : xrho} {as cs : List Nat} {M : xM} {ow : xOw} {o2 o3 : Option xV} (hc : c < 6) (h12 : isN q 12 0 40) (hsp : ∀ r, r < nu q 12 0 → okSp q r) (HH : FH T0 M ow X ad fh fp cl ll dl q) (HP : FP M ow fp q) (H : oCa T0 M ow c a cp ak cs as) : ∃ M' ow' cs', xZ T0 MI 100 0 [some (vr (some X)), some (vr (some a)), o2, o3] [] M = some (none, M') ∧ oCa T0 M' ow' c a cp ak cs' as ∧ sps M' ow' cs' (bkF q 0 (nu q 12 0)) ∧ stp (fun t => ¬ inP (500 + c) 1 2 t) 40 3600 ow M ow' M' := by
  have l1 := H.2.2.2.1
  obtain ⟨M1, e1, l1', s1⟩ := oL_clear (T0 := T0) (MI := MI) (o1 := none) (o2 := none) (o3 := none) (by omega) l1
  have p9 : ∀ t : Nat × Nat, t.1 = 9999 → ¬ inP (500 + c) 1 (1 + 1) t := fun t ht e => by have := e.1; omega
  obtain ⟨M', ow', cs', e2, e3, e4, e5⟩ := c_tell_l (T0 := T0) (MI := MI) (X := X) hc h12 hsp (nu q 12 0) 0 (by omega) M1 ow [] [] o3 (FH_f HH s1 (fun t ht e => by have := e.1; omega) (fun t ht e => by have := e.1; omega) (qe_rf _ _ _) (qe_rf _ _ _)) (FP_f HP s1 (fun t t1 t2 e => by have := e.1; omega) p9 (qe_rf _ _ _)) (oCa_l1 H l1' s1) ⟨rfl, fun i h => absurd h (by simp)⟩ (by simp)
  have hn := h12.2
  refine ⟨M', ow', cs', ?_, e3, e4, stp_w (stp_tr s1 e5) (fun _ h => h) (by omega) (by omega)⟩
  rw [bq_100_0, Option.bind_some, gR H.1 1 rfl, Option.bind_some, Option.bind_some, (oL_c l1).1, cond_true, e1]
  simp (decide := true) (disch := omega) only [Option.bind_some, xasI, xasL, xasR, xin_t, cond_true, cond_false, nI_clamp, k_0, k_1, k_2, k_3, k_4, k_5, k_6, k_40, k_60, k_500, k_10000, pk_mul, nI_add, nI_e0, nI_ee, nI_leI, nI_ltI, xbool0, xbool1, xbn0, xbn1, xb_0, xb_1, reduceIte, one0, Option.isNone_none, ne_eq, not_true_eq_false, not_false_eq_true, if_true, if_false, ite_not, Bool.true_and, Bool.and_true]
  rw [bq_100_7, k_0, e2]
