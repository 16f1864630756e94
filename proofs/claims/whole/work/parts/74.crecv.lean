/-! receive -/
def tkR (M : xM) (ow : xOw) (g a ra ka sa : Nat) (h : Nat → Int32) (sn : Option Nat) (R : RW) (K : Nat → KW) (S : List Int32) (n : Int32) (ps : PW) (K' : Nat → KW) : Prop := if n = Int32.ofInt (-1) then oHA M ow g a ra ka sa (upd (upd h 10 (h 10 + nI 1)) 0 (nI 5)) sn R K' S else oHA M ow g a ra ka sa (upd h 10 (h 10 + nI 1)) sn (ps.foldl tkP R) K S
def hTk (h : Nat → Int32) (lo hi e at_ : Int32) : Nat → Int32 := upd (upd (upd (upd (upd (upd (upd (upd (upd (upd h 0 (nI 0)) 12 (nI 0)) 0 (nI 4)) 1 lo) 2 hi) 3 e) 9 at_) 10 (nI 0)) 6 e) 7 at_
def rcvS (M M' : xM) (ow : xOw) (g a ra ka sa : Nat) (h : Nat → Int32) (sn : Option Nat) (R : RW) (K : Nat → KW) (S : List Int32) (lo hi n : Int32) (ps : PW) (K' : Nat → KW) (e at_ pt x : Int32) : Prop :=
  if tI (anewC h e at_ pt) = 1 then x = pt ∧ tkR M' ow g a ra ka sa (hTk h lo hi e at_) none [] (fun _ => []) [] n ps K'
  else if h 0 = nI 4 ∧ h 3 = e ∧ h 9 = at_ then
    if pt = h 10 then x = pt ∧ tkR M' ow g a ra ka sa h sn R K S n ps K'
    else M' = M ∧ x = if h 10 ≤ pt then Int32.ofInt (-2) else pt
  else if h 0 = nI 5 ∧ h 3 = e then M' = M ∧ x = pt
  else M' = M ∧ x = if h 0 = 0 then Int32.ofInt (-1) else Int32.ofInt (-2)
theorem c_receive {T0 MI : Nat} {ow : xOw} {M : xM} {g g' a ra ka sa p l : Nat} {h : Nat → Int32} {sn : Option Nat} {R : RW} {K K' : Nat → KW} {S : List Int32} {lo hi n e at_ pt : Int32} {ps : PW} (hg : g ≠ g') (H : oHA M ow g a ra ka sa h sn R K S) (hp : isPar M ow g' p lo hi n ps K') (hl : isLet M l e at_ pt) (bl : l < M.1) (ol : (ow l).1 ≠ g) : ∃ M' x, xZ T0 MI 22 0 [some (vr (some a)), some (vr (some l)), some (vr (some p))] [] M = some (some (vi x), M') ∧ rcvS M M' ow g a ra ka sa h sn R K S lo hi n ps K' e at_ pt x ∧ stp (off g) 0 0 ow M ow M' := by
  have g0 := hA_g H 0 (by simp)
  have g3 := hA_g H 3 (by simp)
  have g9 := hA_g H 9 (by simp)
  have g10 := hA_g H 10 (by simp)
  unfold rcvS
  rw [bq_22_0, hA_c H, cond_true, c_anew H hl]
  by_cases a1 : anewC h e at_ pt
  · rw [tI_t a1]
    obtain ⟨M1, e1, H1, s1⟩ := c_stk (T0 := T0) (MI := MI) hg H hp hl bl ol
    have p1 := isPar_f hp s1 (fun t ht e => hg (e.symm.trans ht))
    have l1 := isLet_f hl s1 bl ol
    obtain ⟨M2, e2, H2, s2⟩ := c_take (T0 := T0) (MI := MI) (o2 := none) hg H1 p1
    have l2 := isLet_f l1 s2 (by have := s1.1; omega) (by rw [(s1.2.2.2 l bl).1]; exact ol)
    refine ⟨M2, pt, ?_, by rw [if_pos rfl]; exact ⟨rfl, H2⟩, stp_tr s1 s2⟩
    simp (decide := true) (disch := omega) only [bq_22_5, Option.bind_some, xasI, xasL, xasR, xin_t, cond_true, cond_false, nI_clamp, k_0, k_1, k_2, k_3, k_4, k_5, k_6, k_40, k_60, k_500, k_10000, pk_mul, nI_add, nI_e0, nI_ee, nI_leI, nI_ltI, xbool0, xbool1, xbn0, xbn1, xb_0, xb_1, reduceIte, one0, Option.isNone_none, ne_eq, not_true_eq_false, not_false_eq_true, if_true, if_false, ite_not, Bool.true_and, Bool.and_true]
    rw [bq_22_8, hA_c H, cond_true, e1]
    simp (decide := true) (disch := omega) only [Option.bind_some, xasI, xasL, xasR, xin_t, cond_true, cond_false, nI_clamp, k_0, k_1, k_2, k_3, k_4, k_5, k_6, k_40, k_60, k_500, k_10000, pk_mul, nI_add, nI_e0, nI_ee, nI_leI, nI_ltI, xbool0, xbool1, xbn0, xbn1, xb_0, xb_1, reduceIte, one0, Option.isNone_none, ne_eq, not_true_eq_false, not_false_eq_true, if_true, if_false, ite_not, Bool.true_and, Bool.and_true]
    rw [bq_22_14, hA_c H1, cond_true, e2]
    simp (decide := true) (disch := omega) only [Option.bind_some, xasI, xasL, xasR, xin_t, cond_true, cond_false, nI_clamp, k_0, k_1, k_2, k_3, k_4, k_5, k_6, k_40, k_60, k_500, k_10000, pk_mul, nI_add, nI_e0, nI_ee, nI_leI, nI_ltI, xbool0, xbool1, xbn0, xbn1, xb_0, xb_1, reduceIte, one0, Option.isNone_none, ne_eq, not_true_eq_false, not_false_eq_true, if_true, if_false, ite_not, Bool.true_and, Bool.and_true]
    rw [bq_22_19, Option.bind_some, l2.2.2, Option.bind_some]
  · rw [tI_f a1]
    have no1 : ¬ (0 : Int32) = 1 := by decide
    have rest : ¬ (h 0 = nI 4 ∧ h 3 = e ∧ h 9 = at_) → xZ T0 MI 22 96 [some (vr (some a)), some (vr (some l)), some (vr (some p))] [] M = some (some (vi (if h 0 = nI 5 ∧ h 3 = e then pt else if h 0 = 0 then Int32.ofInt (-1) else Int32.ofInt (-2))), M) := by
      intro _
      have tail : xZ T0 MI 22 120 [some (vr (some a)), some (vr (some l)), some (vr (some p))] [] M = some (some (vi (if h 0 = 0 then Int32.ofInt (-1) else Int32.ofInt (-2))), M) := by
        rw [bq_22_120, g0, Option.bind_some]
        by_cases b1 : h 0 = 0
        · rw [if_pos b1, if_pos b1, bq_22_127, bq_22_133]
        · rw [if_neg b1, if_neg b1, bq_22_131, bq_22_133]
      rw [bq_22_96, g0, Option.bind_some, k_5]
      by_cases b1 : h 0 = nI 5
      · rw [if_pos b1, bq_22_104, g3, Option.bind_some, Option.bind_some, hl.1, Option.bind_some]
        by_cases b2 : h 3 = e
        · rw [if_pos b2, if_pos ⟨b1, b2⟩, bq_22_115, Option.bind_some, hl.2.2, Option.bind_some]
        · rw [if_neg b2, if_neg (fun h => b2 h.2), tail]
      · rw [if_neg b1, if_neg (fun h => b1 h.1), tail]
    have fin : ¬ (h 0 = nI 4 ∧ h 3 = e ∧ h 9 = at_) → ∀ z, xZ T0 MI 22 24 [some (vr (some a)), some (vr (some l)), some (vr (some p))] [] M = z → ∃ M' x, z = some (some (vi x), M') ∧ (if (0 : Int32) = 1 then x = pt ∧ tkR M' ow g a ra ka sa (hTk h lo hi e at_) none [] (fun _ => []) [] n ps K' else if h 0 = nI 4 ∧ h 3 = e ∧ h 9 = at_ then (if pt = h 10 then x = pt ∧ tkR M' ow g a ra ka sa h sn R K S n ps K' else M' = M ∧ x = if h 10 ≤ pt then Int32.ofInt (-2) else pt) else if h 0 = nI 5 ∧ h 3 = e then M' = M ∧ x = pt else M' = M ∧ x = if h 0 = 0 then Int32.ofInt (-1) else Int32.ofInt (-2)) ∧ stp (off g) 0 0 ow M ow M' := by
      intro nb z hz
      have r := rest nb
      have hz2 : z = some (some (vi (if h 0 = nI 5 ∧ h 3 = e then pt else if h 0 = 0 then Int32.ofInt (-1) else Int32.ofInt (-2))), M) := by
        rw [← hz, bq_22_24, g0, Option.bind_some, k_4]
        by_cases b1 : h 0 = nI 4
        · rw [if_pos b1, bq_22_32, g3, Option.bind_some, Option.bind_some, hl.1, Option.bind_some]
          by_cases b2 : h 3 = e
          · rw [if_pos b2, bq_22_43, g9, Option.bind_some, Option.bind_some, hl.2.1, Option.bind_some]
            by_cases b3 : h 9 = at_
            · exact absurd ⟨b1, b2, b3⟩ nb
            · rw [if_neg b3, r]
          · rw [if_neg b2, r]
        · rw [if_neg b1, r]
      refine ⟨M, _, hz2, ?_, stp_rf _ _ _⟩
      rw [if_neg no1, if_neg nb]
      by_cases c1 : h 0 = nI 5 ∧ h 3 = e
      · rw [if_pos c1, if_pos c1]; exact ⟨rfl, rfl⟩
      · rw [if_neg c1, if_neg c1]; exact ⟨rfl, rfl⟩
    have st : (Option.bind (some (some (vi (0 : Int32)), M)) fun z_1 : Option xV × xM => (xasI z_1.1).bind fun x_2 => xZ T0 MI 22 5 [some (vr (some a)), some (vr (some l)), some (vr (some p))] [vi x_2] z_1.2) = xZ T0 MI 22 24 [some (vr (some a)), some (vr (some l)), some (vr (some p))] [] M := by
      simp (decide := true) (disch := omega) only [bq_22_5, Option.bind_some, xasI, xasL, xasR, xin_t, cond_true, cond_false, nI_clamp, k_0, k_1, k_2, k_3, k_4, k_5, k_6, k_40, k_60, k_500, k_10000, pk_mul, nI_add, nI_e0, nI_ee, nI_leI, nI_ltI, xbool0, xbool1, xbn0, xbn1, xb_0, xb_1, reduceIte, one0, Option.isNone_none, ne_eq, not_true_eq_false, not_false_eq_true, if_true, if_false, ite_not, Bool.true_and, Bool.and_true]
    rw [st]
    by_cases nb : h 0 = nI 4 ∧ h 3 = e ∧ h 9 = at_
    · have st2 : xZ T0 MI 22 24 [some (vr (some a)), some (vr (some l)), some (vr (some p))] [] M = xZ T0 MI 22 54 [some (vr (some a)), some (vr (some l)), some (vr (some p))] [] M := by
        rw [bq_22_24, g0, Option.bind_some, k_4, if_pos nb.1, bq_22_32, g3, Option.bind_some, Option.bind_some, hl.1, Option.bind_some, if_pos nb.2.1, bq_22_43, g9, Option.bind_some, Option.bind_some, hl.2.1, Option.bind_some, if_pos nb.2.2]
      rw [st2, bq_22_54, Option.bind_some, hl.2.2, Option.bind_some, g10, Option.bind_some]
      by_cases c1 : pt = h 10
      · obtain ⟨M2, e2, H2, s2⟩ := c_take (T0 := T0) (MI := MI) (o2 := none) hg H hp
        have l2 := isLet_f hl s2 bl ol
        refine ⟨M2, pt, ?_, by rw [if_neg no1, if_pos nb, if_pos c1]; exact ⟨rfl, H2⟩, s2⟩
        rw [if_pos c1, bq_22_65, hA_c H, cond_true, e2]
        simp (decide := true) (disch := omega) only [Option.bind_some, xasI, xasL, xasR, xin_t, cond_true, cond_false, nI_clamp, k_0, k_1, k_2, k_3, k_4, k_5, k_6, k_40, k_60, k_500, k_10000, pk_mul, nI_add, nI_e0, nI_ee, nI_leI, nI_ltI, xbool0, xbool1, xbn0, xbn1, xb_0, xb_1, reduceIte, one0, Option.isNone_none, ne_eq, not_true_eq_false, not_false_eq_true, if_true, if_false, ite_not, Bool.true_and, Bool.and_true]
        rw [bq_22_70, Option.bind_some, l2.2.2, Option.bind_some]
      · refine ⟨M, if h 10 ≤ pt then Int32.ofInt (-2) else pt, ?_, by rw [if_neg no1, if_pos nb, if_neg c1]; exact ⟨rfl, rfl⟩, stp_rf _ _ _⟩
        rw [if_neg c1, bq_22_75, Option.bind_some, hl.2.2, Option.bind_some, g10, Option.bind_some]
        by_cases c2 : h 10 ≤ pt
        · rw [if_pos c2, if_pos c2, bq_22_93, bq_22_95]
        · rw [if_neg c2, if_neg c2, bq_22_86, Option.bind_some, hl.2.2, Option.bind_some, bq_22_95]
    · exact fin nb _ rfl
/-! a new Holding -/
theorem oH_new {T0 MI g a : Nat} {M : xM} {ow : xOw} (h : M.2.2 a = .inr (2, xdef 2)) (o : ow a = (g, 0)) (b : a < M.1) : ∃ M' ow' ra ka sa, xZ T0 MI 7 0 [some (vr (some a))] [] M = some (none, M') ∧ oHA M' ow' g a ra ka sa (fun _ => nI 0) none [] (fun _ => []) [] ∧ stp (off g) 10 215 ow M ow' M' := by
  rw [xdef2] at h
  -- field by field
  generalize hM0 : xset M a (.inr (2, [vi (nI 0), vi 0, vi 0, vi 0, vr none, vr none, vi 0, vi 0, vi 0, vi 0, vi 0, vr none, vi 0, vr none])) = M0
  have p0 : xput M a 2 0 (vi (nI 0)) = some M0 := (pV h 0 rfl _).trans (congrArg some hM0)
  have a0 : M0.2.2 a = .inr (2, [vi (nI 0), vi 0, vi 0, vi 0, vr none, vr none, vi 0, vi 0, vi 0, vi 0, vi 0, vr none, vi 0, vr none]) := by rw [← hM0]; exact xset_at _ _ _
  have b0 : a < M0.1 := by rw [← hM0]; exact b
  have s0 : stp (off g) 0 0 ow M ow M0 := by rw [← hM0]; exact stp_set (by rw [o]; exact fun h => h rfl)
  have hb0 : ∀ k : Nat, bnd ow M0 → (g, k).1 < 10000 + (M0.1 + 1) := fun k hb => bnd_g hb b0 o
  -- Rows
  have c1 : (xnewO M0 9).2.2 M0.1 = .inr (9, [vi 0, vr none, vr none]) := by rw [newO_at, xdef9]
  obtain ⟨M1, ow1, e1, r1, s1⟩ := oR_new (T0 := T0) (MI := MI) c1 (va_up_self ow M0.1 (g, 1)) (Nat.lt_succ_self _)
  have n1 := newO_stp (fun t => t ≠ (g, 1)) ow M0 9 (g, 1) (hb0 1)
  have w1 : ow1 a = (g, 0) := by rw [(s1.2.2.2 a (Nat.lt_succ_of_lt b0)).1, (n1.2.2.2 a b0).1, o]
  have a1 : M1.2.2 a = .inr (2, [vi (nI 0), vi 0, vi 0, vi 0, vr none, vr none, vi 0, vi 0, vi 0, vi 0, vi 0, vr none, vi 0, vr none]) := by
    rw [(s1.2.2.2 a (Nat.lt_succ_of_lt b0)).2 (by rw [(n1.2.2.2 a b0).1, o]; exact fun h => absurd h.2.1 (by simp)), newO_ne (by omega)]
    exact a0
  have b1 : a < M1.1 := by have := s1.1; have : M0.1 + 1 ≤ M1.1 := this; omega
  generalize hM2 : xset M1 a (.inr (2, [vi (nI 0), vi 0, vi 0, vi 0, vr (some M0.1), vr none, vi 0, vi 0, vi 0, vi 0, vi 0, vr none, vi 0, vr none])) = M2
  have p2 : xput M1 a 2 4 (vr (some M0.1)) = some M2 := (pV a1 4 rfl _).trans (congrArg some hM2)
  have a2 : M2.2.2 a = .inr (2, [vi (nI 0), vi 0, vi 0, vi 0, vr (some M0.1), vr none, vi 0, vi 0, vi 0, vi 0, vi 0, vr none, vi 0, vr none]) := by rw [← hM2]; exact xset_at _ _ _
  have b2 : a < M2.1 := by rw [← hM2]; exact b1
  have s2 : stp (fun t => t ≠ (g, 0)) 0 0 ow1 M1 ow1 M2 := by rw [← hM2]; exact stp_set (by rw [w1]; exact fun h => h rfl)
  have r2 := oRows_f r1 s2 (fun t ht e => by rw [e] at ht; exact absurd ht.2.1 (by simp))
  have hb2 : ∀ k : Nat, bnd ow1 M2 → (g, k).1 < 10000 + (M2.1 + 1) := fun k hb => bnd_g hb b2 w1
  -- Kept
  have c3 : (xnewO M2 4).2.2 M2.1 = .inr (4, [vr none, vr none, vr none, vr none]) := by rw [newO_at, xdef4]
  obtain ⟨M3, ow3, e3, k3, s3⟩ := oK_new (T0 := T0) (MI := MI) c3 (va_up_self ow1 M2.1 (g, 4)) (Nat.lt_succ_self _)
  have n3 := newO_stp (fun _ => True) ow1 M2 4 (g, 4) (hb2 4)
  have r3 := oRows_f (oRows_f r2 n3 (fun _ _ => trivial)) s3 (fun t ht e => by have := ht.2.2; have := e.2.1; omega)
  have w3 : ow3 a = (g, 0) := by rw [(s3.2.2.2 a (Nat.lt_succ_of_lt b2)).1, (n3.2.2.2 a b2).1, w1]
  have a3 : M3.2.2 a = .inr (2, [vi (nI 0), vi 0, vi 0, vi 0, vr (some M0.1), vr none, vi 0, vi 0, vi 0, vi 0, vi 0, vr none, vi 0, vr none]) := by
    rw [(s3.2.2.2 a (Nat.lt_succ_of_lt b2)).2 (by rw [(n3.2.2.2 a b2).1, w1]; exact fun h => absurd h.2.1 (by simp)), newO_ne (by omega)]
    exact a2
  have b3 : a < M3.1 := by have := s3.1; have : M2.1 + 1 ≤ M3.1 := this; omega
  generalize hM4 : xset M3 a (.inr (2, [vi (nI 0), vi 0, vi 0, vi 0, vr (some M0.1), vr (some M2.1), vi 0, vi 0, vi 0, vi 0, vi 0, vr none, vi 0, vr none])) = M4
  have p4 : xput M3 a 2 5 (vr (some M2.1)) = some M4 := (pV a3 5 rfl _).trans (congrArg some hM4)
  have a4 : M4.2.2 a = .inr (2, [vi (nI 0), vi 0, vi 0, vi 0, vr (some M0.1), vr (some M2.1), vi 0, vi 0, vi 0, vi 0, vi 0, vr none, vi 0, vr none]) := by rw [← hM4]; exact xset_at _ _ _
  have b4 : a < M4.1 := by rw [← hM4]; exact b3
  have s4 : stp (fun t => t ≠ (g, 0)) 0 0 ow3 M3 ow3 M4 := by rw [← hM4]; exact stp_set (by rw [w3]; exact fun h => h rfl)
  have r4 := oRows_f r3 s4 (fun t ht e => by rw [e] at ht; exact absurd ht.2.1 (by simp))
  have k4 := oKept_f k3 s4 (fun t ht e => by rw [e] at ht; exact absurd ht.2.1 (by simp))
  have hb4 : ∀ k : Nat, bnd ow3 M4 → (g, k).1 < 10000 + (M4.1 + 1) := fun k hb => bnd_g hb b4 w3
  -- KeySet
  have c5 : (xnewO M4 5).2.2 M4.1 = .inr (5, [vi 0, vr none]) := by rw [newO_at, xdef5]
  obtain ⟨M5, ow5, e5, k5, s5⟩ := oS_new (T0 := T0) (MI := MI) c5 (va_up_self ow3 M4.1 (g, 9)) (Nat.lt_succ_self _)
  have n5 := newO_stp (fun _ => True) ow3 M4 5 (g, 9) (hb4 9)
  have r5 := oRows_f (oRows_f r4 n5 (fun _ _ => trivial)) s5 (fun t ht e => by have := ht.2.2; have := e.2.1; omega)
  have kk5 := oKept_f (oKept_f k4 n5 (fun _ _ => trivial)) s5 (fun t ht e => by have := ht.2.2; have := e.2.1; omega)
  have w5 : ow5 a = (g, 0) := by rw [(s5.2.2.2 a (Nat.lt_succ_of_lt b4)).1, (n5.2.2.2 a b4).1, w3]
  have a5 : M5.2.2 a = .inr (2, [vi (nI 0), vi 0, vi 0, vi 0, vr (some M0.1), vr (some M2.1), vi 0, vi 0, vi 0, vi 0, vi 0, vr none, vi 0, vr none]) := by
    rw [(s5.2.2.2 a (Nat.lt_succ_of_lt b4)).2 (by rw [(n5.2.2.2 a b4).1, w3]; exact fun h => absurd h.2.1 (by simp)), newO_ne (by omega)]
    exact a4
  have b5 : a < M5.1 := by have := s5.1; have : M4.1 + 1 ≤ M5.1 := this; omega
  have s6 : stp (fun t => t ≠ (g, 0)) 0 0 ow5 M5 ow5 (xset M5 a (.inr (2, hl (fun _ => nI 0) M0.1 M2.1 none M4.1))) := stp_set (by rw [w5]; exact fun h => h rfl)
  refine ⟨xset M5 a (.inr (2, hl (fun _ => nI 0) M0.1 M2.1 none M4.1)), ow5, M0.1, M2.1, M4.1, ?_, ⟨xset_at _ _ _, w5, b5, oRows_f r5 s6 (fun t ht e => by rw [e] at ht; exact absurd ht.2.1 (by simp)), oKept_f kk5 s6 (fun t ht e => by rw [e] at ht; exact absurd ht.2.1 (by simp)), oKeys_f k5 s6 (fun t ht e => by rw [e] at ht; exact absurd ht.2.1 (by simp))⟩, ?_⟩
  · rw [bq_7_0, k_0, p0, Option.bind_some, e1]
    simp (decide := true) (disch := omega) only [Option.bind_some, xasI, xasL, xasR, xin_t, cond_true, cond_false, nI_clamp, k_0, k_1, k_2, k_3, k_4, k_5, k_6, k_40, k_60, k_500, k_10000, pk_mul, nI_add, nI_e0, nI_ee, nI_leI, nI_ltI, xbool0, xbool1, xbn0, xbn1, xb_0, xb_1, reduceIte, one0, Option.isNone_none, ne_eq, not_true_eq_false, not_false_eq_true, if_true, if_false, ite_not, Bool.true_and, Bool.and_true]
    rw [bq_7_17, p2, Option.bind_some, e3]
    simp (decide := true) (disch := omega) only [Option.bind_some, xasI, xasL, xasR, xin_t, cond_true, cond_false, nI_clamp, k_0, k_1, k_2, k_3, k_4, k_5, k_6, k_40, k_60, k_500, k_10000, pk_mul, nI_add, nI_e0, nI_ee, nI_leI, nI_ltI, xbool0, xbool1, xbn0, xbn1, xb_0, xb_1, reduceIte, one0, Option.isNone_none, ne_eq, not_true_eq_false, not_false_eq_true, if_true, if_false, ite_not, Bool.true_and, Bool.and_true]
    rw [bq_7_28, p4, Option.bind_some, e5]
    simp (decide := true) (disch := omega) only [Option.bind_some, xasI, xasL, xasR, xin_t, cond_true, cond_false, nI_clamp, k_0, k_1, k_2, k_3, k_4, k_5, k_6, k_40, k_60, k_500, k_10000, pk_mul, nI_add, nI_e0, nI_ee, nI_leI, nI_ltI, xbool0, xbool1, xbn0, xbn1, xb_0, xb_1, reduceIte, one0, Option.isNone_none, ne_eq, not_true_eq_false, not_false_eq_true, if_true, if_false, ite_not, Bool.true_and, Bool.and_true]
    rw [bq_7_39, pV a5 13 rfl, Option.bind_some]
    rfl
  · have t1 := stp_tr s0 (stp_tr (newO_stp (off g) ow M0 9 (g, 1) (hb0 1)) (off_r s1))
    have t2 := stp_tr t1 (off_0 s2)
    have t3 := stp_tr t2 (stp_tr (newO_stp (off g) ow1 M2 4 (g, 4) (hb2 4)) (off_r s3))
    have t4 := stp_tr t3 (off_0 s4)
    have t5 := stp_tr t4 (stp_tr (newO_stp (off g) ow3 M4 5 (g, 9) (hb4 9)) (off_r s5))
    have t6 := stp_tr t5 (off_0 s6)
    exact stp_w t6 (fun _ h => h) (by decide) (by decide)
