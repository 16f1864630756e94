/-! a new letter -/
def lf (kd fr to rg ep : Int32) (k : Nat) : Int32 := match k with
  | 0 => kd
  | 1 => fr
  | 2 => to
  | 3 => rg
  | 4 => ep
  | 5 => Int32.ofInt (-9)
  | 6 => Int32.ofInt (-9)
  | 7 => Int32.ofInt (-9)
  | 8 => Int32.ofInt (-9)
  | _ => 0
theorem xdef6 : xdef 6 = [vi 0, vi 0, vi 0, vi 0, vi 0, vi 0, vi 0, vi 0, vi 0, vl 0, vi 0, vr none, vr none, vr none, vi 0, vi 0] := by decide
theorem c_newLe {T0 MI : Nat} {M : xM} {kd fr to rg ep : Int32} : xZ T0 MI 46 0 [some (vr (some M.1)), some (vi kd), some (vi fr), some (vi to), some (vi rg), some (vi ep)] [] (xnewO M 6) = some (none, xset (xnewO M 6) M.1 (.inr (6, [vi kd, vi fr, vi to, vi rg, vi ep, vi (Int32.ofInt (-9)), vi (Int32.ofInt (-9)), vi (Int32.ofInt (-9)), vi (Int32.ofInt (-9)), vl 0, vi 0, vr none, vr none, vr none, vi 0, vi 0]))) := by
  have h1 : (xnewO M 6).2.2 M.1 = .inr (6, [vi 0, vi 0, vi 0, vi 0, vi 0, vi 0, vi 0, vi 0, vi 0, vl 0, vi 0, vr none, vr none, vr none, vi 0, vi 0]) := by rw [newO_at, xdef6]
  rw [bq_46_0, pV h1 5 rfl, Option.bind_some, pV (xset_at _ _ _) 6 rfl, Option.bind_some, xset_xset, pV (xset_at _ _ _) 7 rfl, Option.bind_some, xset_xset, pV (xset_at _ _ _) 8 rfl, Option.bind_some, xset_xset, pV (xset_at _ _ _) 0 rfl, Option.bind_some, xset_xset, pV (xset_at _ _ _) 1 rfl, Option.bind_some, xset_xset, pV (xset_at _ _ _) 2 rfl, Option.bind_some, xset_xset, pV (xset_at _ _ _) 3 rfl, Option.bind_some, xset_xset, pV (xset_at _ _ _) 4 rfl, Option.bind_some, xset_xset]
  rfl
theorem c_post {T0 MI X : Nat} {M : xM} {ow : xOw} {ad : Nat → Nat} {fh fp : Nat → Option Nat} {cl ll dl : List Nat} {q : xrho} {kd fr to rg ep : Int32} {o6 : Option xV} (H : FH T0 M ow X ad fh fp cl ll dl q) (hl : ll.length < 1200) (hE : ∀ e ∈ ll, isObj M e ∧ e < M.1 ∧ 2000 ≤ (ow e).1) : ∃ M' ow', xZ T0 MI 101 0 [some (vr (some X)), some (vi kd), some (vi fr), some (vi to), some (vi rg), some (vi ep), o6] [] M = some (some (vr (some M.1)), M') ∧ FH T0 M' ow' X ad fh fp cl (ll ++ [M.1]) dl q ∧ oLe M' ow' ll.length M.1 (lf kd fr to rg ep) 0 none none none ∧ stp (fun t => ¬ inP 1 5 6 t) 2 (2 * ll.length + 26) ow M ow' M' := by
  have s0 : ∀ P, stp P 1 16 ow M (va_up ow M.1 (2000 + ll.length, 0)) (xset (xnewO M 6) M.1 (.inr (6, [vi kd, vi fr, vi to, vi rg, vi ep, vi (Int32.ofInt (-9)), vi (Int32.ofInt (-9)), vi (Int32.ofInt (-9)), vi (Int32.ofInt (-9)), vl 0, vi 0, vr none, vr none, vr none, vi 0, vi 0]))) := fun P => by
    obtain ⟨a1, a2, a3, a4⟩ := newO_f (c := 6) (o := (2000 + ll.length, 0)) P (ow := ow) (M := M) (fun _ => by show 2000 + ll.length < _; omega) (y := 16) (by decide)
    refine ⟨a1, a2, a3, fun b hb => ⟨(a4 b hb).1, fun hP => ?_⟩⟩
    rw [xset_ne _ _ (by omega)]
    exact (a4 b hb).2 hP
  have H1 := FH_f H (s0 (fun _ => True)) (fun _ _ => trivial) (fun _ _ => trivial) (qe_rf _ _ _) (qe_rf _ _ _)
  have L0 : oLe (xset (xnewO M 6) M.1 (.inr (6, [vi kd, vi fr, vi to, vi rg, vi ep, vi (Int32.ofInt (-9)), vi (Int32.ofInt (-9)), vi (Int32.ofInt (-9)), vi (Int32.ofInt (-9)), vl 0, vi 0, vr none, vr none, vr none, vi 0, vi 0]))) (va_up ow M.1 (2000 + ll.length, 0)) ll.length M.1 (lf kd fr to rg ep) 0 none none none := ⟨xset_at _ _ _, va_up_self _ _ _, Nat.lt_succ_self _⟩
  have er := c_hasRoom (T0 := T0) (MI := MI) (k := 1) H1 (by decide)
  obtain ⟨g, ho, hg⟩ := H1
  have l5 : oList T0 _ _ 1 5 (ad 3) ll := ho.2.2.2.2.2.2.2.1
  have o5 := (oL_c l5).2.1
  obtain ⟨M2, ow2, e2, l52, s2⟩ := oL_add (T0 := T0) (MI := MI) (v := M.1) (by decide) l5 (by omega) ⟨6, _, L0.1, by decide⟩ L0.2.2 (ow_ne L0.2.1 o5 (by simp)) (fun e he => by
    obtain ⟨⟨c, fs, g1, g2⟩, g3, g4⟩ := hE e he
    have g5 := (s0 (fun _ => True)).2.2.2 e g3
    refine ⟨⟨c, fs, by rw [g5.2 trivial]; exact g1, g2⟩, by have := (s0 (fun _ => True)).1; omega, fun h => ?_⟩
    rw [← h, g5.1] at o5
    rw [o5] at g4
    exact absurd g4 (by decide))
  have HH2 : FH T0 M2 ow2 X ad fh fp cl (ll ++ [M.1]) dl q := ⟨g, oHo_3 ho l52 s2, hg⟩
  obtain ⟨c1, c2, c3⟩ := L0
  have hM := s2.1
  refine ⟨M2, ow2, ?_, HH2, ⟨?_, ?_, by omega⟩, stp_w (stp_tr (s0 _) s2) (fun _ h => h) (by omega) (by omega)⟩
  · rw [bq_101_0, c_newLe]
    simp (decide := true) (disch := omega) only [Option.bind_some, xasI, xasL, xasR, xin_t, cond_true, cond_false, nI_clamp, k_0, k_1, k_2, k_3, k_4, k_5, k_6, k_40, k_60, k_500, k_10000, pk_mul, nI_add, nI_e0, nI_ee, nI_leI, nI_ltI, xbool0, xbool1, xbn0, xbn1, xb_0, xb_1, reduceIte, one0, Option.isNone_none, ne_eq, not_true_eq_false, not_false_eq_true, if_true, if_false, ite_not, Bool.true_and, Bool.and_true]
    rw [bq_101_14, (ho_c ⟨g, ho, hg⟩).1, cond_true, k_1, er, tI_t (by omega)]
    simp (decide := true) (disch := omega) only [Option.bind_some, xasI, xasL, xasR, xin_t, cond_true, cond_false, nI_clamp, k_0, k_1, k_2, k_3, k_4, k_5, k_6, k_40, k_60, k_500, k_10000, pk_mul, nI_add, nI_e0, nI_ee, nI_leI, nI_ltI, xbool0, xbool1, xbn0, xbn1, xb_0, xb_1, reduceIte, one0, Option.isNone_none, ne_eq, not_true_eq_false, not_false_eq_true, if_true, if_false, ite_not, Bool.true_and, Bool.and_true]
    rw [bq_101_21, if_neg one0, bq_101_24, (ho_c ⟨g, ho, hg⟩).2.2.2.2.1, Option.bind_some, Option.bind_some, (oL_c l5).1, cond_true, e2]
    simp (decide := true) (disch := omega) only [Option.bind_some, xasI, xasL, xasR, xin_t, cond_true, cond_false, nI_clamp, k_0, k_1, k_2, k_3, k_4, k_5, k_6, k_40, k_60, k_500, k_10000, pk_mul, nI_add, nI_e0, nI_ee, nI_leI, nI_ltI, xbool0, xbool1, xbn0, xbn1, xb_0, xb_1, reduceIte, one0, Option.isNone_none, ne_eq, not_true_eq_false, not_false_eq_true, if_true, if_false, ite_not, Bool.true_and, Bool.and_true]
    rw [bq_101_33, bq_101_34]
  · rw [(s2.2.2.2 _ c3).2 (by rw [c2]; simp)]; exact c1
  · rw [(s2.2.2.2 _ c3).1]; exact c2
/-! writing a letter's fields -/
theorem le_w {M : xM} {ow : xOw} {l a : Nat} {f f' : Nat → Int32} {v v' : Int64} {ask told par ask' told' par' : Option Nat} (H : oLe M ow l a f v ask told par) (k : Nat) (x : xV) (hk : k < 16) (hv : [vi (f 0), vi (f 1), vi (f 2), vi (f 3), vi (f 4), vi (f 5), vi (f 6), vi (f 7), vi (f 8), vl v, vi (f 10), vr ask, vr told, vr par, vi (f 14), vi (f 15)].set k x = [vi (f' 0), vi (f' 1), vi (f' 2), vi (f' 3), vi (f' 4), vi (f' 5), vi (f' 6), vi (f' 7), vi (f' 8), vl v', vi (f' 10), vr ask', vr told', vr par', vi (f' 14), vi (f' 15)]) : ∃ M', xput M a 6 k x = some M' ∧ oLe M' ow l a f' v' ask' told' par' ∧ stp (fun t => t.1 ≠ 2000 + l) 0 0 ow M ow M' := by
  obtain ⟨h1, o, b⟩ := H
  exact ⟨_, (pV h1 k (by show Nat.blt k 16 = true; simp [Nat.blt]; omega) x).trans (by rw [hv]), ⟨xset_at _ _ _, o, b⟩, stp_set (by rw [o]; exact fun h => h rfl)⟩
theorem le_i {M : xM} {ow : xOw} {l a : Nat} {f : Nat → Int32} {v : Int64} {ask told par : Option Nat} (H : oLe M ow l a f v ask told par) (k : Nat) (x : Int32) (hk : k < 16 ∧ k ≠ 9 ∧ k ≠ 11 ∧ k ≠ 12 ∧ k ≠ 13) : ∃ M', xput M a 6 k (vi x) = some M' ∧ oLe M' ow l a (upd f k x) v ask told par ∧ stp (fun t => t.1 ≠ 2000 + l) 0 0 ow M ow M' := le_w H k (vi x) hk.1 (by
  obtain ⟨h, h1, h2, h3, h4⟩ := hk
  have : k = 0 ∨ k = 1 ∨ k = 2 ∨ k = 3 ∨ k = 4 ∨ k = 5 ∨ k = 6 ∨ k = 7 ∨ k = 8 ∨ k = 10 ∨ k = 14 ∨ k = 15 := by omega
  rcases this with rfl | rfl | rfl | rfl | rfl | rfl | rfl | rfl | rfl | rfl | rfl | rfl <;> rfl)
theorem le_9 {M : xM} {ow : xOw} {l a : Nat} {f : Nat → Int32} {v : Int64} {ask told par : Option Nat} (H : oLe M ow l a f v ask told par) (x : Int64) : ∃ M', xput M a 6 9 (vl x) = some M' ∧ oLe M' ow l a f x ask told par ∧ stp (fun t => t.1 ≠ 2000 + l) 0 0 ow M ow M' := le_w H 9 (vl x) (by decide) rfl
theorem le_11 {M : xM} {ow : xOw} {l a : Nat} {f : Nat → Int32} {v : Int64} {ask told par : Option Nat} (H : oLe M ow l a f v ask told par) (x : Option Nat) : ∃ M', xput M a 6 11 (vr x) = some M' ∧ oLe M' ow l a f v x told par ∧ stp (fun t => t.1 ≠ 2000 + l) 0 0 ow M ow M' := le_w H 11 (vr x) (by decide) rfl
theorem le_12 {M : xM} {ow : xOw} {l a : Nat} {f : Nat → Int32} {v : Int64} {ask told par : Option Nat} (H : oLe M ow l a f v ask told par) (x : Option Nat) : ∃ M', xput M a 6 12 (vr x) = some M' ∧ oLe M' ow l a f v ask x par ∧ stp (fun t => t.1 ≠ 2000 + l) 0 0 ow M ow M' := le_w H 12 (vr x) (by decide) rfl
theorem le_13 {M : xM} {ow : xOw} {l a : Nat} {f : Nat → Int32} {v : Int64} {ask told par : Option Nat} (H : oLe M ow l a f v ask told par) (x : Option Nat) : ∃ M', xput M a 6 13 (vr x) = some M' ∧ oLe M' ow l a f v ask told x ∧ stp (fun t => t.1 ≠ 2000 + l) 0 0 ow M ow M' := le_w H 13 (vr x) (by decide) rfl
def lastOK (q : xrho) : Prop := ∀ p, p < 240 → (q.1 15 p = nI 2 ∨ q.1 15 p = nI 3) → q.1 32 p = 0 → nu q 29 p < nu q 82 0
/-- a letter more -/
theorem Rep_post {T0 X n x y b : Nat} {ad : Nat → Nat} {fh fp : Nat → Option Nat} {cl ll dl : List Nat} {aa : Nat → Nat} {pk : Nat → Option Nat} {q q' : xrho} {L L' : xLs} {M M' : xM} {ow ow' : xOw} {par : Option Nat} (H : Rep T0 X n ad fh fp cl ll dl aa pk q L M ow) (B : bds q) (hl : ll.length < 1200) (hG : lastOK q) (hs : stp (fun t => ¬ inP 1 5 6 t ∧ t.1 ≠ 2000 + ll.length) x y ow M ow' M') (hH : FH T0 M' ow' X ad fh fp cl (ll ++ [b]) dl q) (hL : rLet M' ow' ll.length b q' L' aa par) (e : ∀ k i, ¬ (60 ≤ k ∧ k ≤ 76) → k ≠ 82 → q'.1 k i = q.1 k i) (e2 : ∀ k i, 60 ≤ k → k ≤ 75 → k ≠ 74 → i < ll.length → q'.1 k i = q.1 k i) (e3 : ∀ i, i < 3 * ll.length → q'.1 74 i = q.1 74 i ∧ q'.1 76 i = q.1 76 i ∧ q'.2 77 i = q.2 77 i) (eL : ∀ k i, k ≠ 77 → q'.2 k i = q.2 k i) (e82 : nu q' 82 0 = ll.length + 1) (hR : L'.1 = L.1) (hS : L'.2.1 = L.2.1) (hK : L'.2.2.1 = L.2.2.1) (hZ : ∀ i, i < 6 * ll.length → L'.2.2.2 i = L.2.2.2 i) : Rep T0 X n ad fh fp cl (ll ++ [b]) dl aa (va_up pk ll.length par) q' L' M' ow' := by
  obtain ⟨H0, H1, H2, H3, H4, H5, H6, H7⟩ := H
  have hcl : cl.length ≤ 6 := by rw [H4.1]; exact B.1.2
  have n82 : ll.length = nu q 82 0 := H6.1
  obtain ⟨g, ho, hg⟩ := hH
  refine ⟨hs.2.1.2 H0, ⟨g, ?_, fun i hi => by rw [hg i hi, e 1 i (by decide) (by decide)]⟩, FT_f H2 hs ⟨fun t a b => ?_, fun t a b => ?_, fun t a => ?_, fun t a => ?_⟩ (fun k i a b => e k i (by omega) (by omega)) (fun k i a b => e k i (by omega) (by omega)) (fun p hp => hs_of (fun k i a b => e k i (by omega) (by omega)) (fun k i a b => e k i (by omega) (by omega)) (fun k i a b => e k i (by omega) (by omega)) (by rw [hR]) (by rw [hS]) (fun c _ => by rw [hK]) (fun a b => ?_)), FP_f H3 hs (fun t a b => ?_) (fun t a => ?_) (fun k i a b => e k i (by omega) (by omega)), FC_f H4 hcl hs (fun t a b => ?_) (fun t a => ?_) (fun t a => ?_) (fun k i a b => e k i (by omega) (by omega)) (fun k i a b => e k i (by omega) (by omega)) (Nat.le_refl _), FA_f H5 B.1.2 (fun c hc => (B.2.1 c hc).2) hs (fun t a b => ?_) (fun k i a b => e k i (by omega) (by omega)) (fun k i _ _ => eL k i (by omega)), ⟨?_, fun l hl2 => ?_⟩, ?_⟩
  any_goals omega
  · rw [e 12 0 (by decide) (by decide), e 13 0 (by decide) (by decide), e 14 0 (by decide) (by decide)]
    exact ho
  · have := hG p hp a b
    rw [va_up_ne _ _ (by omega)]
  · rw [e82, List.length_append]; rfl
  · rw [List.length_append, List.length_singleton] at hl2
    by_cases el : l < ll.length
    · rw [List.getElem_append_left el, va_up_ne _ _ (by omega)]
      refine rLet_f (H6.2 l el) hs (fun t a => by omega) (fun t a => by omega) ⟨fun k a b c => e2 k l a b c el, fun j hj => e3 _ (by omega), fun c hc => hZ _ (by omega), fun _ => rfl⟩
    · have : l = ll.length := by omega
      subst this
      rw [List.getElem_append_right (Nat.le_refl _), va_up_self]
      simp only [Nat.sub_self, List.getElem_singleton]
      exact hL
  · refine ⟨by rw [nu_e (e 88 0 (by decide) (by decide))]; exact H7.1, fun i hi => ?_⟩
    obtain ⟨l, hl3, h0, h1, h2, h3, h4, h5⟩ := H7.2 i hi
    refine ⟨l, by rw [List.length_append]; omega, by rw [List.getElem_append_left hl3]; exact h0, ?_, ?_, ?_, ?_, ?_⟩
    · rw [e 83 _ (by decide) (by decide), e2 62 l (by decide) (by decide) (by decide) hl3]; exact h1
    · rw [e 84 _ (by decide) (by decide), e2 66 l (by decide) (by decide) (by decide) hl3]; exact h2
    · rw [e 85 _ (by decide) (by decide), e2 61 l (by decide) (by decide) (by decide) hl3]; exact h3
    · rw [e 86 _ (by decide) (by decide), e2 63 l (by decide) (by decide) (by decide) hl3]; exact h4
    · rw [e 87 _ (by decide) (by decide), e2 64 l (by decide) (by decide) (by decide) hl3]; exact h5
theorem le_objs {M : xM} {ow : xOw} {ll : List Nat} {q : xrho} {L : xLs} {aa : Nat → Nat} {pk : Nat → Option Nat} (H : FL M ow ll q L aa pk) : ∀ e ∈ ll, isObj M e ∧ e < M.1 ∧ 2000 ≤ (ow e).1 := fun e he => by
  obtain ⟨l, hl, rfl⟩ := List.getElem_of_mem he
  obtain ⟨f, v, ask, told, ⟨h1, o, b⟩, -⟩ := H.2 l hl
  exact ⟨⟨6, _, h1, by decide⟩, b, by rw [o]; show 2000 ≤ 2000 + l; omega⟩
