/-! GO, BEGIN, TOOK -/
theorem gix_new {q q' : xrho} {h : Nat} (h44 : q'.1 44 0 = nI (nu q 44 0 + 1)) (hb : nu q 44 0 < 1200) (h38 : ∀ g, g < nu q 44 0 → q'.1 38 g = q.1 38 g) : gix q' h = gix q h ++ (if q'.1 38 (nu q 44 0) = nI h then [nu q 44 0] else []) := by
  have n44 : nu q' 44 0 = nu q 44 0 + 1 := by
    show (q'.1 44 0).toNatClampNeg = _
    rw [h44, nI_clamp (by omega)]
  unfold gix
  rw [n44, List.range_succ, List.filter_append]
  congr 1
  · apply List.filter_congr
    intro g hg
    rw [h38 g (List.mem_range.mp hg)]
  · by_cases e : q'.1 38 (nu q 44 0) = nI h
    · rw [if_pos e]
      simp [e]
    · rw [if_neg e]
      simp [e]
theorem gix_lt {q : xrho} {h g : Nat} (hg : g ∈ gix q h) : g < nu q 44 0 := by
  unfold gix at hg
  exact List.mem_range.mp (List.mem_filter.mp hg).1
/-- a host has given a range -/
theorem Rep_gv {T0 X n x y h a s : Nat} {ad : Nat → Nat} {fh fp : Nat → Option Nat} {cl ll dl : List Nat} {aa : Nat → Nat} {pk : Nat → Option Nat} {q q' : xrho} {L : xLs} {M M' : xM} {ow ow' : xOw} {f : Nat → Option Nat} {gs : List Nat} {ar gv : Nat} (H : Rep T0 X n ad fh fp cl ll dl aa pk q L M ow) (B : bds q) (hh : h < 6) (ha : fh h = some a) (oh : oHs T0 M ow h a ar gv f (q.1 0 h) gs) (og : gvT M ow gs q h) (hfs : ∀ r', r' < 40 → rHold M ow (f r') (40 * h + r') q L pk) (hs : stp (fun t => ¬ inP (10 + h) 2 3 t) x y ow M ow' M') (hl : oList T0 M' ow' (10 + h) 2 gv (gs ++ [s])) (sp : isSpot M' ow' s (q'.1 39 (nu q 44 0)) (q'.1 40 (nu q 44 0)) (q'.1 41 (nu q 44 0)) (q'.1 42 (nu q 44 0)) (q'.1 43 (nu q 44 0))) (h44 : q'.1 44 0 = nI (nu q 44 0 + 1)) (h38 : q'.1 38 (nu q 44 0) = nI h) (e : ∀ k i, ¬ (38 ≤ k ∧ k ≤ 44) → q'.1 k i = q.1 k i) (e2 : ∀ k i, 38 ≤ k → k ≤ 43 → i < nu q 44 0 → q'.1 k i = q.1 k i) (eL : ∀ k i, q'.2 k i = q.2 k i) : Rep T0 X n ad fh fp cl ll dl aa pk q' L M' ow' ∧ rHost T0 M' ow' h a f q' ∧ ∀ r', r' < 40 → rHold M' ow' (f r') (40 * h + r') q' L pk := by
  obtain ⟨H0, H1, H2, H3, H4, H5, H6, H7⟩ := H
  have hll : ll.length ≤ 1200 := by rw [H6.1]; exact B.2.2.1.2
  have hcl : cl.length ≤ 6 := by rw [H4.1]; exact B.1.2
  have hb44 := B.2.2.2.2.1.2
  have hsm : ∀ p, hsame q L pk p q' L pk := fun p => hs_of (fun k i a b => e k i (by omega)) (fun k i a b => e k i (by omega)) (fun k i a b => e k i (by omega)) rfl rfl (fun _ _ => rfl) (fun _ _ => rfl)
  have hs1 : stp (fun t => t.1 ≠ 10 + h) x y ow M ow' M' := stp_w hs (fun t ht e => ht e.1) (Nat.le_refl _) (Nat.le_refl _)
  have gx : ∀ j, gix q' j = gix q j ++ (if q'.1 38 (nu q 44 0) = nI j then [nu q 44 0] else []) := fun j => gix_new h44 (by omega) (fun g hg => e2 38 g (by decide) (by decide) hg)
  have gxh : gix q' h = gix q h ++ [nu q 44 0] := by rw [gx h, if_pos h38]
  have hh2 : rHost T0 M' ow' h a f q' := by
    obtain ⟨h1, h2, ⟨o1, o2⟩, ⟨b1, b2⟩, l1⟩ := oh
    refine ⟨ar, gv, gs ++ [s], ⟨?_, ?_, ⟨?_, ?_⟩, ⟨?_, ?_⟩, hl⟩, ?_, ?_⟩
    · rw [(hs.2.2.2 _ b1).2 (by rw [o1]; simp), e 0 h (by omega)]; exact h1
    · rw [(hs.2.2.2 _ b2).2 (by rw [o2]; simp)]; exact h2
    · rw [(hs.2.2.2 _ b1).1]; exact o1
    · rw [(hs.2.2.2 _ b2).1]; exact o2
    · have := hs.1; omega
    · have := hs.1; omega
    · rw [gxh, List.length_append, List.length_append, og.1]; rfl
    · intro j j1 j2
      rw [List.length_append, List.length_singleton] at j1
      by_cases ej : j < gs.length
      · have ej2 : j < (gix q h).length := by rw [← og.1]; exact ej
        have gl := gix_lt (List.getElem_mem ej2)
        have sj := og.2 j ej ej2
        rw [List.getElem_append_left ej]
        have eg : (gix q' h)[j] = (gix q h)[j] := by
          have : (gix q' h)[j]? = (gix q h)[j]? := by rw [gxh, List.getElem?_append_left ej2]
          rw [List.getElem?_eq_getElem j2, List.getElem?_eq_getElem ej2] at this
          exact Option.some.inj this
        rw [eg, e2 39 _ (by decide) (by decide) gl, e2 40 _ (by decide) (by decide) gl, e2 41 _ (by decide) (by decide) gl, e2 42 _ (by decide) (by decide) gl, e2 43 _ (by decide) (by decide) gl]
        exact isSpot_f sj hs1 (fun t ht => by omega)
      · have ejl : j = gs.length := by omega
        subst ejl
        have eg : (gix q' h)[gs.length] = nu q 44 0 := by
          have : (gix q' h)[gs.length]? = some (nu q 44 0) := by
            rw [gxh, List.getElem?_append_right (by rw [og.1]; exact Nat.le_refl _), og.1, Nat.sub_self]
            rfl
          rw [List.getElem?_eq_getElem j2] at this
          exact Option.some.inj this
        rw [eg, List.getElem_append_right (Nat.le_refl _)]
        simp only [Nat.sub_self, List.getElem_singleton]
        exact sp
  have hf2 : ∀ r', r' < 40 → rHold M' ow' (f r') (40 * h + r') q' L pk := fun r' hr' => rHold_f (hfs r' hr') hs1 (fun t ht => by omega) (hsm _)
  refine ⟨⟨hs.2.1.2 H0, FH_f H1 hs1 (fun t a => ?_) (fun t a => ?_) (fun k i a b => e k i (by omega)) (fun k i a b => e k i (by omega)), fun j hj => ?_, FP_f H3 hs1 (fun t a b => ?_) (fun t a => ?_) (fun k i a b => e k i (by omega)), FC_f H4 hcl hs1 (fun t a b => ?_) (fun t a => ?_) (fun t a => ?_) (fun k i a b => e k i (by omega)) (fun k i a b => e k i (by omega)) (Nat.le_refl _), FA_f H5 B.1.2 (fun c hc => (B.2.1 c hc).2) hs1 (fun t a b => ?_) (fun k i a b => e k i (by omega)) (fun k i _ _ => eL k i), FL_f H6 hll hs1 (fun t a b => ?_) (fun t a => ?_) (e 82 0 (by omega)) (fun l hl => ls_of (fun k i a b => e k i (by omega)) (fun k i _ _ => eL k i) (fun _ _ => rfl)), FD_f H7 (fun k i a b => e k i (by omega)) (fun k i a b c _ => e k i (by omega))⟩, hh2, hf2⟩
  any_goals omega
  by_cases ej : j = h
  · subst ej
    exact ⟨a, f, ha, hh2, hf2⟩
  · obtain ⟨a2, f2, g1, ⟨ar2, gv2, gs2, oh2, og2⟩, g3⟩ := H2 j hj
    have gj : gix q' j = gix q j := by
      rw [gx j, h38, if_neg (by rw [nI_ee (by omega) (by omega)]; omega), List.append_nil]
    refine ⟨a2, f2, g1, ⟨ar2, gv2, gs2, by rw [e 0 j (by omega)]; exact oHs_f oh2 hs1 (fun t ht => by omega) (fun t ht => by omega), by rw [gj]; exact og2.1, fun i i1 i2 => ?_⟩, fun r' hr' => rHold_f (g3 r' hr') hs1 (fun t ht => by omega) (hsm _)⟩
    have i2' : i < (gix q j).length := by rw [← gj]; exact i2
    have gl := gix_lt (List.getElem_mem i2')
    have eg : (gix q' j)[i] = (gix q j)[i] := by simp only [gj]
    rw [eg, e2 39 _ (by decide) (by decide) gl, e2 40 _ (by decide) (by decide) gl, e2 41 _ (by decide) (by decide) gl, e2 42 _ (by decide) (by decide) gl, e2 43 _ (by decide) (by decide) gl]
    exact isSpot_f (og2.2 i i1 i2') hs1 (fun t ht => by omega)
def ggo1 (q : xrho) (h r p : Nat) (e : Int32) : xrho := rup (rup (rup (rup (rup (rup (rup q 38 (nu q 44 0) (nI h)) 39 (nu q 44 0) (nI r)) 40 (nu q 44 0) (q.1 16 p)) 41 (nu q 44 0) (q.1 17 p)) 42 (nu q 44 0) e) 43 (nu q 44 0) (q.1 21 p)) 44 0 (nI (nu q 44 0 + 1))
theorem ggoq_1 (q : xrho) (h r p : Nat) (e : Int32) : ggoq q h r p e = rup (ggo1 q h r p e) 15 p (nI 0) := by
  unfold ggoq ggo1
  rw [rup_cm (k := 15) (k' := 38) _ (by decide), rup_cm (k := 15) (k' := 39) _ (by decide), rup_cm (k := 15) (k' := 40) _ (by decide), rup_cm (k := 15) (k' := 41) _ (by decide), rup_cm (k := 15) (k' := 42) _ (by decide), rup_cm (k := 15) (k' := 43) _ (by decide), rup_cm (k := 15) (k' := 44) _ (by decide)]
theorem ggo1_at (q : xrho) (h r p : Nat) (e : Int32) : (ggo1 q h r p e).1 38 (nu q 44 0) = nI h ∧ (ggo1 q h r p e).1 39 (nu q 44 0) = nI r ∧ (ggo1 q h r p e).1 40 (nu q 44 0) = q.1 16 p ∧ (ggo1 q h r p e).1 41 (nu q 44 0) = q.1 17 p ∧ (ggo1 q h r p e).1 42 (nu q 44 0) = e ∧ (ggo1 q h r p e).1 43 (nu q 44 0) = q.1 21 p ∧ (ggo1 q h r p e).1 44 0 = nI (nu q 44 0 + 1) := by
  unfold ggo1
  simp (decide := true) only [rup_r, and_true, and_false, false_and, true_and, reduceIte, and_self]
theorem ggo1_o (q : xrho) (h r p : Nat) (e : Int32) {k i : Nat} (hk : ¬ (38 ≤ k ∧ k ≤ 44)) : (ggo1 q h r p e).1 k i = q.1 k i := by
  unfold ggo1
  rw [rup_ne _ _ _ _ (by omega), rup_ne _ _ _ _ (by omega), rup_ne _ _ _ _ (by omega), rup_ne _ _ _ _ (by omega), rup_ne _ _ _ _ (by omega), rup_ne _ _ _ _ (by omega), rup_ne _ _ _ _ (by omega)]
theorem ggo1_i (q : xrho) (h r p : Nat) (e : Int32) {k i : Nat} (hk : 38 ≤ k ∧ k ≤ 43) (hi : i < nu q 44 0) : (ggo1 q h r p e).1 k i = q.1 k i := by
  unfold ggo1
  rw [rup_ne _ _ _ _ (by omega), rup_r, if_neg (by omega), rup_r, if_neg (by omega), rup_r, if_neg (by omega), rup_r, if_neg (by omega), rup_r, if_neg (by omega), rup_r, if_neg (by omega)]
theorem R_go {T0 MI X n l h r a : Nat} {ad : Nat → Nat} {fh fp : Nat → Option Nat} {cl ll dl : List Nat} {aa : Nat → Nat} {pk : Nat → Option Nat} {q : xrho} {L : xLs} {M : xM} {ow : xOw} {o3 : Option xV} (H : Rep T0 X n ad fh fp cl ll dl aa pk q L M ow) (G : gOK q) (hl : l < ll.length) (hh : lh q l h r) (h62 : q.1 62 l = 0) (ha : fh h = some a) (hroom : ll.length < 1200) (h44 : nu q 44 0 < 1100) : ∃ M' ow' ll' pk', xZ T0 MI 118 0 [some (vr (some X)), some (vr (some a)), some (vr (some ll[l])), o3] [] M = some (none, M') ∧ Rep T0 X n ad fh fp cl ll' dl aa pk' (gmvd q 9 h r (q.1 64 l)) L M' ow' ∧ stp ext 4 (2 * ll.length + 2300) ow M ow' M' := by
  have hh0 := hh
  obtain ⟨e61, hh6, e63, hr40⟩ := hh
  obtain ⟨⟨g0, g1, g2, g3, g4⟩, -, ⟨lo, lb⟩, -⟩ := lt_g H hl
  rw [e63] at g3
  obtain ⟨f, f2, f3, hac, -, lk⟩ := hs_acc (T0 := T0) (MI := MI) (r := r) H hh6 hr40 ha
  have e0 : gmvd q 9 h r (q.1 64 l) = gbk (if q.1 15 (40 * h + r) = nI 3 ∧ q.1 18 (40 * h + r) + nI 1 = q.1 64 l then ggoq q h r (40 * h + r) (q.1 64 l) else q) 10 h r (q.1 64 l) := rfl
  rw [e0, bq_118_0, Option.bind_some, g3, Option.bind_some, Option.bind_some, hac, cond_true, lk]
  simp (decide := true) (disch := omega) only [Option.bind_some, xasI, xasL, xasR, xin_t, cond_true, cond_false, nI_clamp, k_0, k_1, k_2, k_3, k_4, k_5, k_6, k_40, k_60, k_500, k_10000, pk_mul, nI_add, nI_e0, nI_ee, nI_leI, nI_ltI, xbool0, xbool1, xbn0, xbn1, xb_0, xb_1, reduceIte, one0, Option.isNone_none, ne_eq, not_true_eq_false, not_false_eq_true, if_true, if_false, ite_not, Bool.true_and, Bool.and_true]
  have hN := f3 r hr40
  have st1 : ∃ M1 ow1, xZ T0 MI 118 8 [some (vr (some X)), some (vr (some a)), some (vr (some ll[l])), o3] [vr (f r)] M = xZ T0 MI 118 71 [some (vr (some X)), some (vr (some a)), some (vr (some ll[l])), some (vr (f r))] [] M1 ∧ Rep T0 X n ad fh fp cl ll dl aa pk (if q.1 15 (40 * h + r) = nI 3 ∧ q.1 18 (40 * h + r) + nI 1 = q.1 64 l then ggoq q h r (40 * h + r) (q.1 64 l) else q) L M1 ow1 ∧ gOK (if q.1 15 (40 * h + r) = nI 3 ∧ q.1 18 (40 * h + r) + nI 1 = q.1 64 l then ggoq q h r (40 * h + r) (q.1 64 l) else q) ∧ stp ext 2 2250 ow M ow1 M1 := by
    have nil : stp ext 2 2250 ow M ow M := stp_w (stp_rf _ _ _) (fun _ h => h) (by omega) (by omega)
    cases hfr : f r with
    | none =>
      rw [hfr] at hN
      have z15 : q.1 15 (40 * h + r) = 0 := hN.1
      rw [if_neg (fun e => by rw [z15] at e; exact absurd e.1 (by decide))]
      refine ⟨M, ow, ?_, H, G, nil⟩
      rw [bq_118_8, Option.isNone_none, cond_true]
    | some b =>
      rw [hfr] at hN
      have st := hd_st hN
      obtain ⟨ra, ka, sa, hv, sn, R, K, S, hA, ti⟩ := hN
      rw [bq_118_8, Option.isNone_some, cond_false, bq_118_13, Option.bind_some, st.1, Option.bind_some, k_3]
      by_cases c1 : q.1 15 (40 * h + r) = nI 3
      · obtain ⟨⟨v1, v2, v3⟩, vR, vK⟩ := ti.2.2.1 (by rw [c1]; decide)
        have v8 := (ti.2.2.2.2.1 (Or.inr c1)).1.1
        have me := c_mvEp (T0 := T0) (MI := MI) (hA_g hA 3 (by decide))
        rw [v3] at me
        rw [if_pos c1, bq_118_21, Option.bind_some, hA_c hA, cond_true, me]
        simp (decide := true) (disch := omega) only [Option.bind_some, xasI, xasL, xasR, xin_t, cond_true, cond_false, nI_clamp, k_0, k_1, k_2, k_3, k_4, k_5, k_6, k_40, k_60, k_500, k_10000, pk_mul, nI_add, nI_e0, nI_ee, nI_leI, nI_ltI, xbool0, xbool1, xbn0, xbn1, xb_0, xb_1, reduceIte, one0, Option.isNone_none, ne_eq, not_true_eq_false, not_false_eq_true, if_true, if_false, ite_not, Bool.true_and, Bool.and_true]
        rw [bq_118_25, Option.bind_some, g4, Option.bind_some]
        by_cases c2 : q.1 18 (40 * h + r) + nI 1 = q.1 64 l
        · rw [if_pos c2, if_pos ⟨c1, c2⟩]
          have f20 := f2
          obtain ⟨ar, gv, gs, oh, og⟩ := f2
          -- the spot
          obtain ⟨M1, e1, sp1, t1⟩ := c_newSp (T0 := T0) (MI := MI) (M := M) (ow := ow) (n := nI r) (lo := hv 1) (hi := hv 2) (e := q.1 64 l) (h := hv 8)
          obtain ⟨lf, lv, lask, ltold, ⟨lc, -, -⟩, lt⟩ := H.2.2.2.2.2.2.1.2 l hl
          have lc1 := newO_c (c := 10) lc lb
          have hc1 := newO_c (c := 10) hA.1 hA.2.2.1
          have l63 : lf 3 = nI r := lt.1.2.2.2.1.trans e63
          have l64 : lf 4 = q.1 64 l := lt.1.2.2.2.2.1
          -- the list
          have l2 := oList_f oh.2.2.2.2 (t1 (fun _ => True)) (fun _ _ => trivial) (fun _ _ => trivial)
          have o2 := (oL_c l2).2.1
          have gl : gs.length ≤ 1100 := by
            have h1 : (gix q h).length ≤ nu q 44 0 := by
              unfold gix
              have := List.length_filter_le (fun g => decide (q.1 38 g = nI h)) (List.range (nu q 44 0))
              rw [List.length_range] at this
              exact this
            have := og.1
            omega
          obtain ⟨M2, ow2, e2, l3, t2⟩ := oL_add (T0 := T0) (MI := MI) (v := M.1) (by omega) l2 (by omega) ⟨10, _, sp1.1, by decide⟩ sp1.2.2 (ow_ne sp1.2.1 o2 (by simp)) (fun e he => by
            obtain ⟨j, hj, rfl⟩ := List.getElem_of_mem he
            have sj := isSpot_f (og.2 j hj (by rw [← og.1]; exact hj)) (t1 (fun _ => True)) (fun _ _ => trivial)
            exact ⟨⟨10, _, sj.1, by decide⟩, sj.2.2, ow_ne sj.2.1 o2 (by simp)⟩)
          have t12 : stp (fun t => ¬ inP (10 + h) 2 3 t) 2 2250 ow M ow2 M2 := stp_w (stp_tr (t1 _) t2) (fun _ h => h) (by omega) (by omega)
          obtain ⟨a38, a39, a40, a41, a42, a43, a44⟩ := ggo1_at q h r (40 * h + r) (q.1 64 l)
          obtain ⟨H1, F2, F3⟩ := Rep_gv (s := M.1) (q' := ggo1 q h r (40 * h + r) (q.1 64 l)) H G.1 hh6 ha oh og f3 t12 l3 (by
            rw [a39, a40, a41, a42, a43, ← v1, ← v2, ← v8]
            exact isSpot_f sp1 t2 (fun t ht e => by rw [e.1] at ht; omega)) a44 a38 (fun k i hk => ggo1_o _ _ _ _ _ hk) (fun k i h1 h2 hi => ggo1_i _ _ _ _ _ ⟨h1, h2⟩ hi) (fun _ _ => rfl)
          have B1 : bds (ggo1 q h r (40 * h + r) (q.1 64 l)) := by
            have n44 : nu (ggo1 q h r (40 * h + r) (q.1 64 l)) 44 0 = nu q 44 0 + 1 := by
              show ((ggo1 q h r (40 * h + r) (q.1 64 l)).1 44 0).toNatClampNeg = _
              rw [a44, nI_clamp (by omega)]
            have B := G.1
            have oo : ∀ k i, ¬ (38 ≤ k ∧ k ≤ 44) → (ggo1 q h r (40 * h + r) (q.1 64 l)).1 k i = q.1 k i := fun k i hk => ggo1_o _ _ _ _ _ hk
            exact ⟨isN_e (oo 45 0 (by omega)) B.1, fun c hc => isN_e (oo 46 c (by omega)) (B.2.1 c hc), isN_e (oo 82 0 (by omega)) B.2.2.1, isN_e (oo 12 0 (by omega)) B.2.2.2.1, ⟨by rw [n44]; exact a44, by omega⟩, isN_e (oo 88 0 (by omega)) B.2.2.2.2.2⟩
          have hA2 := hA_f hA t12 (fun t ht e => by have := e.1; omega)
          obtain ⟨M3, e3, hA3, t3⟩ := c_beN (T0 := T0) (MI := MI) hA2
          obtain ⟨H2, -, -⟩ := Rep_hd (q' := rup (ggo1 q h r (40 * h + r) (q.1 64 l)) 15 (40 * h + r) (nI 0)) (L' := L) H1 B1 hh6 hr40 ha F2 F3 t3 (by
            rw [hfr]
            refine ⟨ra, ka, sa, _, none, [], _, [], hA3, ?_⟩
            unfold tie
            rw [rup_at, rup_ne _ _ _ _ (k' := 30) (by decide), rup_ne _ _ _ _ (k' := 31) (by decide), ggo1_o _ _ _ _ _ (k := 30) (by decide), ggo1_o _ _ _ _ _ (k := 31) (by decide)]
            refine ⟨⟨rfl, ti.1.2.1, ti.1.2.2⟩, fun _ => ⟨rfl, fun _ _ => rfl⟩, fun e => absurd rfl e, fun e => ?_, fun e => ?_, fun e => absurd e (by decide)⟩
            · rcases e with e | e | e <;> exact absurd e (by decide)
            · rcases e with e | e <;> exact absurd e (by decide)) (fun k i hk => by rw [rup_ne _ _ _ _ (by omega)]) (fun k p hp _ => by rw [rup_r, if_neg (fun e => hp e.2)]) (fun _ _ _ _ => rfl) (fun _ _ => rfl) (fun _ _ => rfl) (fun _ _ _ _ => rfl) rfl
          rw [ggoq_1]
          have oo : ∀ k i, ¬ (38 ≤ k ∧ k ≤ 44) → (ggo1 q h r (40 * h + r) (q.1 64 l)).1 k i = q.1 k i := fun k i hk => ggo1_o _ _ _ _ _ hk
          have G1 : gOK (ggo1 q h r (40 * h + r) (q.1 64 l)) := by
            refine ⟨B1, fun p hp x y => ?_, fun z x y => ?_⟩
            · rw [oo 15 p (by omega)] at x
              rw [oo 32 p (by omega)] at y
              rw [nu_e (oo 29 p (by omega)), nu_e (oo 82 0 (by omega))]
              exact G.2.1 p hp x y
            · rw [nu_e (oo 82 0 (by omega))] at x
              rw [oo 65 z (by omega), oo 75 z (by omega)]
              exact G.2.2 z x y
          refine ⟨M3, ow2, ?_, H2, gOK_15 G1 (by decide), stp_w (stp_tr (ext_of t12 (fun t ht e => by have := e.1; omega) (Nat.le_refl _) (Nat.le_refl _)) (ext_of t3 (fun t ht => by show t.1 ≠ _; omega) (Nat.le_refl _) (Nat.le_refl _))) (fun _ h => h) (by omega) (by omega)⟩
          rw [bq_118_32, Option.bind_some, gR oh.1 3 rfl, Option.bind_some, Option.bind_some, gI lc1 3 rfl, l63, Option.bind_some, Option.bind_some, gI hc1 1 rfl, Option.bind_some, Option.bind_some, gI hc1 2 rfl, Option.bind_some, Option.bind_some, gI lc1 4 rfl, l64, Option.bind_some, Option.bind_some, gI hc1 8 rfl, Option.bind_some, e1]
          simp (decide := true) (disch := omega) only [Option.bind_some, xasI, xasL, xasR, xin_t, cond_true, cond_false, nI_clamp, k_0, k_1, k_2, k_3, k_4, k_5, k_6, k_40, k_60, k_500, k_10000, pk_mul, nI_add, nI_e0, nI_ee, nI_leI, nI_ltI, xbool0, xbool1, xbn0, xbn1, xb_0, xb_1, reduceIte, one0, Option.isNone_none, ne_eq, not_true_eq_false, not_false_eq_true, if_true, if_false, ite_not, Bool.true_and, Bool.and_true]
          rw [bq_118_63, Option.bind_some, (oL_c l2).1, cond_true, e2]
          simp (decide := true) (disch := omega) only [Option.bind_some, xasI, xasL, xasR, xin_t, cond_true, cond_false, nI_clamp, k_0, k_1, k_2, k_3, k_4, k_5, k_6, k_40, k_60, k_500, k_10000, pk_mul, nI_add, nI_e0, nI_ee, nI_leI, nI_ltI, xbool0, xbool1, xbn0, xbn1, xb_0, xb_1, reduceIte, one0, Option.isNone_none, ne_eq, not_true_eq_false, not_false_eq_true, if_true, if_false, ite_not, Bool.true_and, Bool.and_true]
          rw [bq_118_66, Option.bind_some, hA_c hA2, cond_true, e3]
          simp (decide := true) (disch := omega) only [Option.bind_some, xasI, xasL, xasR, xin_t, cond_true, cond_false, nI_clamp, k_0, k_1, k_2, k_3, k_4, k_5, k_6, k_40, k_60, k_500, k_10000, pk_mul, nI_add, nI_e0, nI_ee, nI_leI, nI_ltI, xbool0, xbool1, xbn0, xbn1, xb_0, xb_1, reduceIte, one0, Option.isNone_none, ne_eq, not_true_eq_false, not_false_eq_true, if_true, if_false, ite_not, Bool.true_and, Bool.and_true]
        · rw [if_neg c2, if_neg (fun e => c2 e.2)]
          exact ⟨M, ow, rfl, H, G, nil⟩
      · rw [if_neg c1, if_neg (fun e => c1 e.1)]
        exact ⟨M, ow, rfl, H, G, nil⟩
  obtain ⟨M1, ow1, e1, H1, G1, s1⟩ := st1
  rw [e1]
  generalize hz : (if q.1 15 (40 * h + r) = nI 3 ∧ q.1 18 (40 * h + r) + nI 1 = q.1 64 l then ggoq q h r (40 * h + r) (q.1 64 l) else q) = z at H1 G1 ⊢
  have z6 : ∀ k i, 60 ≤ k → z.1 k i = q.1 k i := fun k i hk => by
    rw [← hz]
    split
    · rw [ggoq_1, rup_ne _ _ _ _ (by omega), ggo1_o _ _ _ _ _ (by omega)]
    · rfl
  obtain ⟨M2, ow2, ll2, pk2, e2, H2, s2⟩ := R_reply (T0 := T0) (MI := MI) (k := 10) H1 G1 hl ⟨by rw [z6 61 l (by decide)]; exact e61, hh6, by rw [z6 63 l (by decide)]; exact e63, hr40⟩ (by rw [z6 62 l (by decide)]; exact h62) (by decide) hroom
  rw [z6 64 l (by decide)] at H2
  refine ⟨M2, ow2, ll2, pk2, ?_, H2, stp_w (stp_tr s1 s2) (fun _ h => h) (by omega) (by omega)⟩
  rw [bq_118_71, (ho_c H1.2.1).1, cond_true]
  rw [show xZ T0 MI 121 0 [some (vr (some X)), some (vi (Int32.ofInt 10)), some (vr (some ll[l]))] [] M1 = some (none, M2) from e2]
  simp (decide := true) (disch := omega) only [Option.bind_some, xasI, xasL, xasR, xin_t, cond_true, cond_false, nI_clamp, k_0, k_1, k_2, k_3, k_4, k_5, k_6, k_40, k_60, k_500, k_10000, pk_mul, nI_add, nI_e0, nI_ee, nI_leI, nI_ltI, xbool0, xbool1, xbn0, xbn1, xb_0, xb_1, reduceIte, one0, Option.isNone_none, ne_eq, not_true_eq_false, not_false_eq_true, if_true, if_false, ite_not, Bool.true_and, Bool.and_true]
  rw [bq_118_78]
theorem R_begin {T0 MI X n l h r a : Nat} {ad : Nat → Nat} {fh fp : Nat → Option Nat} {cl ll dl : List Nat} {aa : Nat → Nat} {pk : Nat → Option Nat} {q : xrho} {L : xLs} {M : xM} {ow : xOw} {o0 o3 : Option xV} (H : Rep T0 X n ad fh fp cl ll dl aa pk q L M ow) (B : bds q) (hl : l < ll.length) (hh : lh q l h r) (h60 : q.1 60 l = nI 3) (ha : fh h = some a) : ∃ M' ow', xZ T0 MI 113 0 [o0, some (vr (some a)), some (vr (some ll[l])), o3] [] M = some (none, M') ∧ Rep T0 X n ad fh fp cl ll dl aa pk (abeg q L l (40 * h + r)).1 (abeg q L l (40 * h + r)).2 M' ow' ∧ stp ext 60 3540 ow M ow' M' := by
  obtain ⟨e61, hh6, e63, hr40⟩ := hh
  obtain ⟨⟨g0, g1, g2, g3, g4⟩, -, ⟨lo, lb⟩, -⟩ := lt_g H hl
  rw [e63] at g3
  obtain ⟨f, f2, f3, hac, -, lk⟩ := hs_acc (T0 := T0) (MI := MI) (r := r) H hh6 hr40 ha
  rw [bq_113_0, Option.bind_some, g3, Option.bind_some, Option.bind_some, hac, cond_true, lk]
  simp (decide := true) (disch := omega) only [Option.bind_some, xasI, xasL, xasR, xin_t, cond_true, cond_false, nI_clamp, k_0, k_1, k_2, k_3, k_4, k_5, k_6, k_40, k_60, k_500, k_10000, pk_mul, nI_add, nI_e0, nI_ee, nI_leI, nI_ltI, xbool0, xbool1, xbn0, xbn1, xb_0, xb_1, reduceIte, one0, Option.isNone_none, ne_eq, not_true_eq_false, not_false_eq_true, if_true, if_false, ite_not, Bool.true_and, Bool.and_true]
  have hN := f3 r hr40
  have nil : stp ext 60 3540 ow M ow M := stp_w (stp_rf _ _ _) (fun _ h => h) (by omega) (by omega)
  unfold abeg
  cases hfr : f r with
  | none =>
    rw [hfr] at hN
    have z15 : q.1 15 (40 * h + r) = 0 := hN.1
    rw [if_neg (fun e => by rw [z15] at e; exact absurd e.1 (by decide))]
    refine ⟨M, ow, ?_, H, nil⟩
    rw [bq_113_8, Option.isNone_none, cond_true, bq_113_45]
  | some b =>
    rw [hfr] at hN
    have st := hd_st hN
    obtain ⟨ra, ka, sa, hv, sn, R, K, S, hA, ti⟩ := hN
    rw [bq_113_8, Option.isNone_some, cond_false, bq_113_13, Option.bind_some, st.1, Option.bind_some, k_1]
    by_cases c1 : q.1 15 (40 * h + r) = nI 1
    · obtain ⟨⟨v1, v2, v3⟩, vR, vK⟩ := ti.2.2.1 (by rw [c1]; decide)
      have me := c_mvEp (T0 := T0) (MI := MI) (hA_g hA 3 (by decide))
      rw [v3] at me
      rw [if_pos c1, bq_113_21, Option.bind_some, hA_c hA, cond_true, me]
      simp (decide := true) (disch := omega) only [Option.bind_some, xasI, xasL, xasR, xin_t, cond_true, cond_false, nI_clamp, k_0, k_1, k_2, k_3, k_4, k_5, k_6, k_40, k_60, k_500, k_10000, pk_mul, nI_add, nI_e0, nI_ee, nI_leI, nI_ltI, xbool0, xbool1, xbn0, xbn1, xb_0, xb_1, reduceIte, one0, Option.isNone_none, ne_eq, not_true_eq_false, not_false_eq_true, if_true, if_false, ite_not, Bool.true_and, Bool.and_true]
      rw [bq_113_25, Option.bind_some, g4, Option.bind_some]
      by_cases c2 : q.1 18 (40 * h + r) = q.1 64 l - nI 1
      · rw [if_pos (eps.mpr c2), if_pos ⟨c1, c2⟩]
        obtain ⟨lf, lv, lask, ltold, ⟨lc, -, -⟩, lt⟩ := H.2.2.2.2.2.2.1.2 l hl
        have l8 : lf 8 = q.1 72 l := lt.2.1 h60
        obtain ⟨M1, e1, hA1, s1⟩ := hA_i hA 8 (lf 8) (by decide)
        obtain ⟨M2, ow2, e2, hA2, s2⟩ := c_startA (T0 := T0) (MI := MI) (x := nI 1) (o2 := none) hA1
        have s12 : stp (off (100 + (40 * h + r))) 60 3540 ow M ow2 M2 := stp_w (stp_tr (off_0 s1) s2) (fun _ h => h) (by omega) (by omega)
        have gv : (gbgq q l (40 * h + r)).1 15 (40 * h + r) = nI 2 ∧ (gbgq q l (40 * h + r)).1 21 (40 * h + r) = q.1 72 l ∧ (gbgq q l (40 * h + r)).1 22 (40 * h + r) = nI 1 ∧ (gbgq q l (40 * h + r)).1 23 (40 * h + r) = nI 0 ∧ (gbgq q l (40 * h + r)).1 32 (40 * h + r) = nI 1 ∧ (gbgq q l (40 * h + r)).1 33 (40 * h + r) = nI 0 := by
          unfold gbgq
          simp (decide := true) only [rup_r, and_true, and_false, false_and, true_and, reduceIte, and_self]
        have go : ∀ k i, k ≠ 15 ∧ k ≠ 21 ∧ k ≠ 22 ∧ k ≠ 23 ∧ k ≠ 32 ∧ k ≠ 33 ∨ i ≠ 40 * h + r → (gbgq q l (40 * h + r)).1 k i = q.1 k i := fun k i hk => by
          unfold gbgq
          rw [rup_r, if_neg (by omega), rup_r, if_neg (by omega), rup_r, if_neg (by omega), rup_r, if_neg (by omega), rup_r, if_neg (by omega), rup_r, if_neg (by omega)]
        obtain ⟨w15, w21, w22, w23, w32, w33⟩ := gv
        obtain ⟨H1, -, -⟩ := Rep_hd (q' := gbgq q l (40 * h + r)) (L' := (L.1, va_up L.2.1 (40 * h + r) (sndL (L.1 (40 * h + r))), L.2.2.1, L.2.2.2)) H B hh6 hr40 ha f2 f3 s12 (by
          rw [hfr]
          refine ⟨ra, ka, sa, _, none, R, K, _, hA2, ?_⟩
          unfold tie
          rw [w15, w21, w22, w23, w32, w33, go 30 _ (Or.inl (by decide)), go 31 _ (Or.inl (by decide)), go 16 _ (Or.inl (by decide)), go 17 _ (Or.inl (by decide)), go 18 _ (Or.inl (by decide))]
          exact ⟨⟨rfl, ti.1.2.1, ti.1.2.2⟩, fun e => absurd e (by decide), fun _ => ⟨⟨v1, v2, v3⟩, vR, vK⟩, fun _ => ⟨rfl, rfl⟩, fun _ => ⟨⟨l8, rfl⟩, fun e => absurd e (by decide), fun _ => rfl⟩, fun _ => by rw [vR]; exact (va_up_self _ _ _).symm⟩) (fun k i hk => go k i (Or.inl (by omega))) (fun k p hp _ => go k p (Or.inr hp)) (fun _ _ _ _ => rfl) (fun _ _ => rfl) (fun p hp => va_up_ne _ _ hp) (fun _ _ _ _ => rfl) rfl
        refine ⟨M2, ow2, ?_, H1, ext_of s12 (fun t ht => by show t.1 ≠ _; omega) (Nat.le_refl _) (Nat.le_refl _)⟩
        rw [bq_113_32, Option.bind_some, gI lc 8 rfl, Option.bind_some, Option.bind_some, e1, Option.bind_some, Option.bind_some, hA_c hA1, cond_true, k_1, e2]
        simp (decide := true) (disch := omega) only [Option.bind_some, xasI, xasL, xasR, xin_t, cond_true, cond_false, nI_clamp, k_0, k_1, k_2, k_3, k_4, k_5, k_6, k_40, k_60, k_500, k_10000, pk_mul, nI_add, nI_e0, nI_ee, nI_leI, nI_ltI, xbool0, xbool1, xbn0, xbn1, xb_0, xb_1, reduceIte, one0, Option.isNone_none, ne_eq, not_true_eq_false, not_false_eq_true, if_true, if_false, ite_not, Bool.true_and, Bool.and_true]
        rw [bq_113_45]
      · rw [if_neg (fun e => c2 (eps.mp e)), if_neg (fun e => c2 e.2)]
        exact ⟨M, ow, by rw [bq_113_45], H, nil⟩
    · rw [if_neg c1, if_neg (fun e => c1 e.1)]
      exact ⟨M, ow, by rw [bq_113_45], H, nil⟩
