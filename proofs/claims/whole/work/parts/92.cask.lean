/-! a new ask -/
def frA (q : xrho) : Prop := ∀ c j, c < 6 → nu q 46 c ≤ j → j < 60 → q.1 54 (60 * c + j) = 0 ∧ q.1 50 (60 * c + j) = 0 ∧ q.2 53 (60 * c + j) = 0
def calOK (q : xrho) : Prop := ∀ l, l < nu q 82 0 → q.1 60 l = nI 0 → isN q 62 l 5 ∧ nu q 62 l < nu q 45 0 ∧ isN q 66 l 59 ∧ nu q 66 l < nu q 46 (nu q 62 l)
theorem xdef0 : xdef 0 = [vi 0, vi 0, vi 0, vl 0, vl 0, vi 0, vl 0, vi 0, vi 0] := by decide
theorem c_newAk {T0 MI : Nat} {M : xM} {x1 x2 x3 : Int32} {v w : Int64} {o5 o7 : Option xV} : xZ T0 MI 0 0 [some (vr (some M.1)), some (vi x1), some (vi x2), some (vi x3), some (vl v), o5, some (vl w), o7] [] (xnewO M 0) = some (none, xset (xnewO M 0) M.1 (.inr (0, [vi x1, vi x2, vi x3, vl v, vl w, vi 0, vl 0, vi 0, vi 0]))) := by
  have h1 : (xnewO M 0).2.2 M.1 = .inr (0, [vi 0, vi 0, vi 0, vl 0, vl 0, vi 0, vl 0, vi 0, vi 0]) := by rw [newO_at, xdef0]
  rw [bq_0_0, pV h1 0 rfl, Option.bind_some, pV (xset_at _ _ _) 1 rfl, Option.bind_some, xset_xset, pV (xset_at _ _ _) 2 rfl, Option.bind_some, xset_xset, pV (xset_at _ _ _) 3 rfl, Option.bind_some, xset_xset, pV (xset_at _ _ _) 4 rfl, Option.bind_some, xset_xset]
  rfl
theorem oCa_l3 {T0 c a cp ak x y : Nat} {M M' : xM} {ow ow' : xOw} {cs as as' : List Nat} (H : oCa T0 M ow c a cp ak cs as) (hl : oList T0 M' ow' (500 + c) 3 ak as') (hs : stp (fun t => ¬ inP (500 + c) 3 4 t) x y ow M ow' M') : oCa T0 M' ow' c a cp ak cs as' := by
  obtain ⟨h1, o1, b1, l1, l2⟩ := H
  refine ⟨?_, ?_, ?_, oList_f l1 hs (fun t ht => by omega) (fun t ht => by omega), hl⟩
  · rw [(hs.2.2.2 _ b1).2 (by rw [o1]; simp)]; exact h1
  · rw [(hs.2.2.2 _ b1).1]; exact o1
  · have := hs.1; omega
theorem gcallq_o (q : xrho) (c n : Nat) (kind key : Int32) (v w : Int64) {k i : Nat} (h : k ≠ 47 ∧ k ≠ 48 ∧ k ≠ 49 ∨ i ≠ 60 * c + n) (h46 : k ≠ 46 ∨ i ≠ c) : (gcallq q c n kind key v w).1 k i = q.1 k i := by
  unfold gcallq
  rw [rup_r, if_neg (by omega), rup_r, if_neg (by omega), rupL_1, rupL_1, rup_r, if_neg (by omega), rup_r, if_neg (by omega)]
theorem gcallq_at (q : xrho) (c n : Nat) (kind key : Int32) (v w : Int64) : (gcallq q c n kind key v w).1 47 (60 * c + n) = kind ∧ (gcallq q c n kind key v w).1 48 (60 * c + n) = key ∧ (gcallq q c n kind key v w).1 49 (60 * c + n) = Int32.ofInt (-9) ∧ (gcallq q c n kind key v w).1 46 c = nI (n + 1) := by
  unfold gcallq
  simp (decide := true) only [rup_r, rupL_1, and_true, and_false, false_and, true_and, reduceIte, and_self]
theorem gcallq_L (q : xrho) (c n : Nat) (kind key : Int32) (v w : Int64) : (gcallq q c n kind key v w).2 51 (60 * c + n) = v ∧ (gcallq q c n kind key v w).2 52 (60 * c + n) = w ∧ ∀ k i, k ≠ 51 ∧ k ≠ 52 ∨ i ≠ 60 * c + n → (gcallq q c n kind key v w).2 k i = q.2 k i := by
  unfold gcallq
  refine ⟨?_, ?_, fun k i h => ?_⟩
  · rw [rup_2, rup_2, rupL_r, if_neg (by omega), rupL_r, if_pos ⟨rfl, rfl⟩]
  · rw [rup_2, rup_2, rupL_r, if_pos ⟨rfl, rfl⟩]
  · rw [rup_2, rup_2, rupL_r, if_neg (by omega), rupL_r, if_neg (by omega)]
    rfl
theorem R_newask {T0 MI X n c : Nat} {ad : Nat → Nat} {fh fp : Nat → Option Nat} {cl ll dl : List Nat} {aa : Nat → Nat} {pk : Nat → Option Nat} {q : xrho} {L : xLs} {M : xM} {ow : xOw} {kind key : Int32} {v w : Int64} {o5 o7 : Option xV} (H : Rep T0 X n ad fh fp cl ll dl aa pk q L M ow) (B : bds q) (hc : c < cl.length) (hn : nu q 46 c < 60) (hF : frA q) (hC : calOK q) : ∃ ak M1 M2 ow2, (xgetR (xnewO M 0) cl[c] 1 2 = some (some ak) ∧ xcls (xnewO M 0) ak 13 = true ∧ xZ T0 MI 206 0 [some (vr (some ak))] [] (xnewO M 0) = some (some (vi (nI (nu q 46 c))), xnewO M 0)) ∧ xZ T0 MI 0 0 [some (vr (some M.1)), some (vi (nI (nu q 46 c))), some (vi kind), some (vi key), some (vl v), o5, some (vl w), o7] [] (xnewO M 0) = some (none, M1) ∧ (xgetR M1 cl[c] 1 2 = some (some ak) ∧ xcls M1 ak 13 = true) ∧ xZ T0 MI 210 0 [some (vr (some ak)), some (vr (some M.1))] [] M1 = some (some (vi 1), M2) ∧ Rep T0 X n ad fh fp cl ll dl (va_up aa (60 * c + nu q 46 c) M.1) pk (gcallq q c (nu q 46 c) kind key v w) L M2 ow2 ∧ stp (fun t => t.1 ≠ 500 + c) 2 150 ow M ow2 M2 := by
  obtain ⟨H0, H1, H2, H3, H4, H5, H6, H7⟩ := H
  have hc6 : c < 6 := by have := H4.1; have := B.1.2; omega
  have hcn : c < nu q 45 0 := by rw [← H4.1]; exact hc
  have hll : ll.length ≤ 1200 := by rw [H6.1]; exact B.2.2.1.2
  have s0 : ∀ P, stp P 1 9 ow M (va_up ow M.1 (1000 + (60 * c + nu q 46 c), 0)) (xnewO M 0) := fun P => newO_f P (fun _ => by show 1000 + (60 * c + nu q 46 c) < _; omega) (by decide)
  have s1 : ∀ P, stp P 1 9 ow M (va_up ow M.1 (1000 + (60 * c + nu q 46 c), 0)) (xset (xnewO M 0) M.1 (.inr (0, [vi (nI (nu q 46 c)), vi kind, vi key, vl v, vl w, vi 0, vl 0, vi 0, vi 0]))) := fun P => by
    obtain ⟨a1, a2, a3, a4⟩ := s0 P
    refine ⟨a1, a2, a3, fun b hb => ⟨(a4 b hb).1, fun hP => ?_⟩⟩
    rw [xset_ne _ _ (by omega)]
    exact (a4 b hb).2 hP
  obtain ⟨cp, ak, cs, as, vs, h1, h2, h3, h4, h5, h6⟩ := H4.2 c hc
  have h10 := oCa_f h1 (s0 (fun _ => True)) (fun _ _ => trivial) (fun _ _ => trivial)
  have h11 := oCa_f h1 (s1 (fun _ => True)) (fun _ _ => trivial) (fun _ _ => trivial)
  have l3 := h11.2.2.2.2
  have o3 := (oL_c l3).2.1
  obtain ⟨M2, ow2, e2, l32, s2⟩ := oL_add (T0 := T0) (MI := MI) (v := M.1) (by omega) l3 (by omega) ⟨0, _, xset_at _ _ _, by decide⟩ (Nat.lt_succ_self _) (ow_ne (va_up_self _ _ _) o3 (by simp)) (fun e he => by
    obtain ⟨j, hj, rfl⟩ := List.getElem_of_mem he
    rw [h6 j hj]
    obtain ⟨sg, ⟨g1, g2, g3⟩, -⟩ := H5 c j hcn (by omega)
    have g5 := (s1 (fun _ => True)).2.2.2 _ g3
    refine ⟨⟨0, _, by rw [g5.2 trivial]; exact g1, by decide⟩, by have := (s1 (fun _ => True)).1; omega, ow_ne (g5.1.trans g2) o3 (by simp)⟩)
  have hc2 := oCa_l3 h11 l32 s2
  have sA : stp (fun t => ¬ inP (500 + c) 3 4 t) 2 150 ow M ow2 M2 := stp_w (stp_tr (s1 _) s2) (fun _ h => h) (by omega) (by omega)
  obtain ⟨q47, q48, q49, q46⟩ := gcallq_at q c (nu q 46 c) kind key v w
  obtain ⟨q51, q52, qL⟩ := gcallq_L q c (nu q 46 c) kind key v w
  have eo : ∀ k i, k < 46 ∨ 50 ≤ k → (gcallq q c (nu q 46 c) kind key v w).1 k i = q.1 k i := fun k i h => gcallq_o _ _ _ _ _ _ _ (Or.inl (by omega)) (Or.inl (by omega))
  have eL : ∀ k i, k < 51 ∨ 53 ≤ k → (gcallq q c (nu q 46 c) kind key v w).2 k i = q.2 k i := fun k i h => qL k i (Or.inl (by omega))
  have e46 : ∀ c', c' ≠ c → (gcallq q c (nu q 46 c) kind key v w).1 46 c' = q.1 46 c' := fun c' h => gcallq_o _ _ _ _ _ _ _ (Or.inl (by omega)) (Or.inr h)
  have n46 : nu (gcallq q c (nu q 46 c) kind key v w) 46 c = nu q 46 c + 1 := by
    show ((gcallq q c (nu q 46 c) kind key v w).1 46 c).toNatClampNeg = _
    rw [q46, nI_clamp (by omega)]
  refine ⟨ak, _, M2, ow2, ⟨gR h10.1 2 rfl, (oL_c h10.2.2.2.2).1, by rw [oL_size h10.2.2.2.2, h5]⟩, c_newAk, ⟨gR h11.1 2 rfl, (oL_c l3).1⟩, e2, ⟨sA.2.1.2 H0, FH_f H1 sA (fun t a => ?_) (fun t a => ?_) (fun k i a b => eo k i (by omega)) (fun k i a b => eo k i (by omega)), FT_f H2 sA ⟨fun t a b => ?_, fun t a b => ?_, fun t a => ?_, fun t a => ?_⟩ (fun k i a b => eo k i (by omega)) (fun k i a b => eo k i (by omega)) (fun p hp => hs_of (fun k i a b => eo k i (by omega)) (fun k i a b => eo k i (by omega)) (fun k i a b => eo k i (by omega)) rfl rfl (fun _ _ => rfl) (fun _ _ => rfl)), FP_f H3 sA (fun t a b => ?_) (fun t a => ?_) (fun k i a b => eo k i (by omega)), ⟨?_, fun j hj => ?_⟩, fun c' j hc' hj => ?_, FL_f H6 hll sA (fun t a b => ?_) (fun t a => ?_) (eo 82 0 (by omega)) (fun l hl => ⟨fun k a b _ => eo k l (by omega), fun j _ => ⟨eo 74 _ (by omega), eo 76 _ (by omega), eL 77 _ (by omega)⟩, fun _ _ => rfl, fun h0 => ?_⟩), FD_f H7 (fun k i a b => eo k i (by omega)) (fun k i a b c _ => eo k i (by omega))⟩, stp_w sA (fun t ht => by omega) (Nat.le_refl _) (Nat.le_refl _)⟩
  any_goals omega
  · rw [nu_e (eo 45 0 (by omega))]
    exact H4.1
  · by_cases ej : j = c
    · subst ej
      refine ⟨cp, ak, cs, as ++ [M.1], vs, hc2, sps_f h2 sA (fun t a => by omega), cpV_e h3 (fun k i a b _ => eo k _ (by omega)), h4, ?_, fun i hi => ?_⟩
      · rw [n46, List.length_append, h5]
        rfl
      · rw [List.length_append, List.length_singleton] at hi
        by_cases ei : i < as.length
        · rw [List.getElem_append_left ei, va_up_ne _ _ (by omega)]
          exact h6 i ei
        · have : i = as.length := by omega
          subst this
          rw [List.getElem_append_right (Nat.le_refl _)]
          simp only [Nat.sub_self, List.getElem_singleton, h5, va_up_self]
    · have := (B.2.1 j (by have := H4.1; have := B.1.2; omega)).2
      exact rCall_f (H4.2 j hj) sA (fun t a => by omega) (fun t a => by omega) (fun t a => by omega) (fun k i a b _ => eo k _ (by omega)) (e46 j ej) (fun i hi => va_up_ne _ _ (by
        rcases Nat.lt_or_gt_of_ne ej with h | h <;> omega)) (Nat.le_refl _)
  · rw [nu_e (eo 45 0 (by omega))] at hc'
    have hb45 := B.1.2
    by_cases ec : c' = c
    · subst ec
      rw [n46] at hj
      by_cases ej : j = nu q 46 c'
      · subst ej
        rw [va_up_self]
        obtain ⟨z1, z2, z3⟩ := hF c' (nu q 46 c') hc6 (Nat.le_refl _) hn
        have d1 := s2.2.2.2 M.1 (Nat.lt_succ_self _)
        rw [va_up_self] at d1
        refine ⟨0, ⟨?_, ?_, ?_⟩, fun h => ?_⟩
        · rw [d1.2 (by simp), xset_at, q47, q48, q51, q52, eo 54 _ (by omega), eo 50 _ (by omega), eL 53 _ (by omega), z1, z2, z3]
        · exact d1.1
        · have := s2.1
          have : M.1 < (xset (xnewO M 0) M.1 (.inr (0, [vi (nI (nu q 46 c')), vi kind, vi key, vl v, vl w, vi 0, vl 0, vi 0, vi 0]))).1 := Nat.lt_succ_self _
          omega
        · rw [eo 54 _ (by omega)] at h
          exact absurd z1 h
      · rw [va_up_ne _ _ (by omega)]
        refine rAsk_f (H5 c' j hc' (by omega)) sA (fun t a => by omega) (fun k a b => ?_) (fun k a b => qL k _ (Or.inr (by omega)))
        exact gcallq_o _ _ _ _ _ _ _ (Or.inr (by omega)) (Or.inl (by omega))
    · rw [nu_e (e46 c' ec)] at hj
      have := (B.2.1 c' (by omega)).2
      have ne : 60 * c' + j ≠ 60 * c + nu q 46 c := by rcases Nat.lt_or_gt_of_ne ec with h | h <;> omega
      rw [va_up_ne _ _ ne]
      refine rAsk_f (H5 c' j hc' hj) sA (fun t a => by omega) (fun k a b => ?_) (fun k a b => qL k _ (Or.inr ne))
      exact gcallq_o _ _ _ _ _ _ _ (Or.inr ne) (Or.inl (by omega))
  · obtain ⟨a1, a2, a3, a4⟩ := hC l (by rw [← H6.1]; exact hl) h0
    refine va_up_ne _ _ (fun h => ?_)
    have := a1.2
    have := a3.2
    by_cases ec : nu q 62 l = c
    · rw [ec] at a4 h
      omega
    · rcases Nat.lt_or_gt_of_ne ec with h | h <;> omega
