/-! an ask changed; postCall; call; again -/
theorem Rep_ak {T0 X n x y c j : Nat} {ad : Nat → Nat} {fh fp : Nat → Option Nat} {cl ll dl : List Nat} {aa : Nat → Nat} {pk : Nat → Option Nat} {q q' : xrho} {L : xLs} {M M' : xM} {ow ow' : xOw} (H : Rep T0 X n ad fh fp cl ll dl aa pk q L M ow) (B : bds q) (hc : c < nu q 45 0) (hj : j < nu q 46 c) (hs : stp (fun t => t.1 ≠ 1000 + (60 * c + j)) x y ow M ow' M') (hL : rAsk M' ow' c j (aa (60 * c + j)) q') (e : ∀ k i, (k ≠ 49 ∧ k ≠ 50 ∧ k ≠ 54) ∨ i ≠ 60 * c + j → q'.1 k i = q.1 k i) (eL : ∀ k i, k ≠ 53 ∨ i ≠ 60 * c + j → q'.2 k i = q.2 k i) : Rep T0 X n ad fh fp cl ll dl aa pk q' L M' ow' := by
  obtain ⟨H0, H1, H2, H3, H4, H5, H6, H7⟩ := H
  have hll : ll.length ≤ 1200 := by rw [H6.1]; exact B.2.2.1.2
  have hcl : cl.length ≤ 6 := by rw [H4.1]; exact B.1.2
  have hb45 := B.1.2
  have hj60 := (B.2.1 c (by omega)).2
  have e' : ∀ k i, k < 49 ∨ 54 < k → q'.1 k i = q.1 k i := fun k i h => e k i (Or.inl (by omega))
  refine ⟨hs.2.1.2 H0, FH_f H1 hs (fun t a => ?_) (fun t a => ?_) (fun k i a b => e' k i (by omega)) (fun k i a b => e' k i (by omega)), FT_f H2 hs ⟨fun t a b => ?_, fun t a b => ?_, fun t a => ?_, fun t a => ?_⟩ (fun k i a b => e' k i (by omega)) (fun k i a b => e' k i (by omega)) (fun p hp => hs_of (fun k i a b => e' k i (by omega)) (fun k i a b => e' k i (by omega)) (fun k i a b => e' k i (by omega)) rfl rfl (fun _ _ => rfl) (fun _ _ => rfl)), FP_f H3 hs (fun t a b => ?_) (fun t a => ?_) (fun k i a b => e' k i (by omega)), FC_f H4 hcl hs (fun t a b => ?_) (fun t a => ?_) (fun t a => ?_) (fun k i a b => e' k i (by omega)) (fun k i a b => e' k i (by omega)) (Nat.le_refl _), fun c' j' hc' hj' => ?_, FL_f H6 hll hs (fun t a b => ?_) (fun t a => ?_) (e' 82 0 (by omega)) (fun l hl => ls_of (fun k i a b => e' k i (by omega)) (fun k i a b => eL k i (Or.inl (by omega))) (fun _ _ => rfl)), FD_f H7 (fun k i a b => e' k i (by omega)) (fun k i a b c _ => e' k i (by omega))⟩
  any_goals omega
  rw [nu_e (e' 45 0 (by omega))] at hc'
  rw [nu_e (e' 46 c' (by omega))] at hj'
  by_cases ei : 60 * c' + j' = 60 * c + j
  · have h1 := (B.2.1 c' (by omega)).2
    have ec : c' = c := by omega
    subst ec
    have ej : j' = j := by omega
    subst ej
    exact hL
  · exact rAsk_f (H5 c' j' hc' hj') hs (fun t a => by omega) (fun k a b => e k _ (Or.inr ei)) (fun k a b => eL k _ (Or.inr ei))
theorem ak_w {M : xM} {ow : xOw} {i j a : Nat} {kd ky an sg st : Int32} {v w vv : Int64} (H : oAk M ow i j a kd ky v w an vv sg st) (x : Int32) : ∃ M', xput M a 0 8 (vi x) = some M' ∧ oAk M' ow i j a kd ky v w an vv sg x ∧ stp (fun t => t.1 ≠ 1000 + i) 0 0 ow M ow M' := by
  obtain ⟨h1, o, b⟩ := H
  exact ⟨_, pV h1 8 rfl (vi x), ⟨xset_at _ _ _, o, b⟩, stp_set (by rw [o]; exact fun h => h rfl)⟩
theorem R_pcall {T0 MI X n c j k s : Nat} {ad : Nat → Nat} {fh fp : Nat → Option Nat} {cl ll dl : List Nat} {aa : Nat → Nat} {pk : Nat → Option Nat} {q : xrho} {L : xLs} {M : xM} {ow : xOw} {o4 : Option xV} (H : Rep T0 X n ad fh fp cl ll dl aa pk q L M ow) (B : bds q) (hl : ll.length < 1200) (hG : lastOK q) (hF : frL q) (hc : c < cl.length) (hj : j < nu q 46 c) (hs : isSpot M ow s (q.1 55 (10000 * c + k)) (q.1 58 (10000 * c + k)) (q.1 59 (10000 * c + k)) (q.1 56 (10000 * c + k)) (q.1 57 (10000 * c + k))) : ∃ M' ow' b, xZ T0 MI 102 0 [some (vr (some X)), some (vr (some cl[c])), some (vr (some (aa (60 * c + j)))), some (vr (some s)), o4] [] M = some (none, M') ∧ Rep T0 X n ad fh fp cl (ll ++ [b]) dl aa (va_up pk ll.length none) (gsends q ll.length c j k) L M' ow' ∧ stp ext 2 (2 * ll.length + 26) ow M ow' M' := by
  have n82 : ll.length = nu q 82 0 := H.2.2.2.2.2.2.1.1
  have hcn : c < nu q 45 0 := by rw [← H.2.2.2.2.1.1]; exact hc
  have hb45 := B.1.2
  have hj60 := (B.2.1 c (by omega)).2
  obtain ⟨cp, ak, cs, as, vs, hca, -⟩ := H.2.2.2.2.1.2 c hc
  obtain ⟨sg, hak, hsg⟩ := H.2.2.2.2.2.1 c j hcn hj
  obtain ⟨-, g0, -, -, g3, g4⟩ := sp_g hs
  obtain ⟨M1, ow1, e1, h1, h2, s1⟩ := c_post (T0 := T0) (MI := MI) (kd := nI 0) (fr := nI c) (to := q.1 57 (10000 * c + k)) (rg := q.1 55 (10000 * c + k)) (ep := q.1 56 (10000 * c + k)) (o6 := none) H.2.1 hl (le_objs H.2.2.2.2.2.2.1)
  obtain ⟨M2, e2, h3, s2⟩ := le_i h2 5 (nI j) (by decide)
  obtain ⟨M3, e3, h4, s3⟩ := le_11 h3 (some (aa (60 * c + j)))
  have sB : stp (fun t => ¬ inP 1 5 6 t ∧ t.1 ≠ 2000 + ll.length) 2 (2 * ll.length + 26) ow M ow1 M3 := stp_tr (stp_tr (stp_w s1 (fun t ht => ht.1) (Nat.le_refl _) (Nat.le_refl _)) (stp_w s2 (fun t ht => ht.2) (Nat.le_refl _) (Nat.le_refl _))) (stp_w s3 (fun t ht => ht.2) (Nat.le_refl _) (Nat.le_refl _))
  obtain ⟨z1, z2⟩ := hF ll.length (by omega) hl
  obtain ⟨d0, d1, d2, d3, d4, d5, d6, d7, d8, d9⟩ := gnew_at q ll.length (nI 0) (q.1 57 (10000 * c + k)) (nI c) (q.1 55 (10000 * c + k)) (q.1 56 (10000 * c + k))
  have R3 : Rep T0 X n ad fh fp cl (ll ++ [M.1]) dl aa (va_up pk ll.length none) (rup (gnew q ll.length (nI 0) (q.1 57 (10000 * c + k)) (nI c) (q.1 55 (10000 * c + k)) (q.1 56 (10000 * c + k))) 66 ll.length (nI j)) L M3 ow1 := by
    refine Rep_post H B hl hG sB (FH_f (FH_f h1 s2 (fun t a => by omega) (fun t a => by omega) (qe_rf _ _ _) (qe_rf _ _ _)) s3 (fun t a => by omega) (fun t a => by omega) (qe_rf _ _ _) (qe_rf _ _ _)) ⟨_, _, _, _, h4, ?_⟩ (fun k i a b => by rw [rup_ne _ _ _ _ (by omega), gnew_o _ _ _ _ _ _ _ (Or.inl (by omega)) b]) (fun k i a b c d => by rw [rup_r, if_neg (by omega), gnew_o _ _ _ _ _ _ _ (Or.inr (Or.inr (by omega))) (by omega)]) (fun i hi => ⟨by rw [rup_ne _ _ _ _ (by omega), gnew_o _ _ _ _ _ _ _ (Or.inl (by omega)) (by decide)], by rw [rup_ne _ _ _ _ (by omega), gnew_o _ _ _ _ _ _ _ (Or.inl (by omega)) (by decide)], rfl⟩) (fun _ _ _ => rfl) (by unfold nu; rw [rup_ne _ _ _ _ (by decide), d9, nI_clamp (by omega)]) rfl rfl rfl (fun _ _ => rfl)
    unfold leT nu
    rw [rup_at, rup_ne _ _ _ _ (k' := 60) (by decide), rup_ne _ _ _ _ (k' := 61) (by decide), rup_ne _ _ _ _ (k' := 62) (by decide), rup_ne _ _ _ _ (k' := 63) (by decide), rup_ne _ _ _ _ (k' := 64) (by decide), rup_ne _ _ _ _ (k' := 65) (by decide), rup_ne _ _ _ _ (k' := 67) (by decide), rup_ne _ _ _ _ (k' := 68) (by decide), rup_ne _ _ _ _ (k' := 69) (by decide), rup_ne _ _ _ _ (k' := 75) (by decide), d0, d1, d2, d3, d4, d6, d7, d8, gnew_o (k := 65) _ _ _ _ _ _ _ (Or.inr (Or.inl rfl)) (by decide), gnew_o (k := 75) _ _ _ _ _ _ _ (Or.inl (by decide)) (by decide), z1, z2, nI_clamp (by omega), nI_clamp (by omega)]
    exact ⟨⟨rfl, rfl, rfl, rfl, rfl, rfl, rfl, rfl, rfl, rfl⟩, fun h => absurd h (by decide), fun h => absurd h (by decide), fun _ => rfl, fun h => absurd h (by decide), Or.inl ⟨rfl, rfl⟩⟩
  obtain ⟨sg3, hak3, hsg3⟩ := R3.2.2.2.2.2.1 c j (by unfold nu; rw [rup_ne _ _ _ _ (by decide), gnew_o _ _ _ _ _ _ _ (Or.inl (by decide)) (by decide)]; exact hcn) (by unfold nu; rw [rup_ne _ _ _ _ (by decide), gnew_o _ _ _ _ _ _ _ (Or.inl (by decide)) (by decide)]; exact hj)
  obtain ⟨M4, e4, h5, s4⟩ := ak_w hak3 (q.1 50 (60 * c + j) + Int32.ofInt 1)
  have B3 : bds (rup (gnew q ll.length (nI 0) (q.1 57 (10000 * c + k)) (nI c) (q.1 55 (10000 * c + k)) (q.1 56 (10000 * c + k))) 66 ll.length (nI j)) := by
    unfold bds isN nu
    rw [rup_ne _ _ _ _ (k' := 45) (by decide), rup_ne _ _ _ _ (k' := 46) (by decide), rup_ne _ _ _ _ (k' := 82) (by decide), rup_ne _ _ _ _ (k' := 12) (by decide), rup_ne _ _ _ _ (k' := 44) (by decide), rup_ne _ _ _ _ (k' := 88) (by decide), d9, nI_clamp (by omega)]
    simp only [gnew_o (k := 45) _ _ _ _ _ _ _ (Or.inl (show ¬ (60 ≤ 45 ∧ 45 ≤ 69) by decide)) (by decide), gnew_o (k := 46) _ _ _ _ _ _ _ (Or.inl (show ¬ (60 ≤ 46 ∧ 46 ≤ 69) by decide)) (by decide), gnew_o (k := 12) _ _ _ _ _ _ _ (Or.inl (show ¬ (60 ≤ 12 ∧ 12 ≤ 69) by decide)) (by decide), gnew_o (k := 44) _ _ _ _ _ _ _ (Or.inl (show ¬ (60 ≤ 44 ∧ 44 ≤ 69) by decide)) (by decide), gnew_o (k := 88) _ _ _ _ _ _ _ (Or.inl (show ¬ (60 ≤ 88 ∧ 88 ≤ 69) by decide)) (by decide)]
    exact ⟨B.1, B.2.1, ⟨trivial, by omega⟩, B.2.2.2.1, B.2.2.2.2⟩
  have q50 : (rup (gnew q ll.length (nI 0) (q.1 57 (10000 * c + k)) (nI c) (q.1 55 (10000 * c + k)) (q.1 56 (10000 * c + k))) 66 ll.length (nI j)).1 50 (60 * c + j) = q.1 50 (60 * c + j) := by rw [rup_ne _ _ _ _ (by decide), gnew_o _ _ _ _ _ _ _ (Or.inl (by decide)) (by decide)]
  refine ⟨M4, ow1, M.1, ?_, ?_, stp_tr (ext_of sB (fun t ht => by omega) (Nat.le_refl _) (Nat.le_refl _)) (ext_of s4 (fun t ht => by omega) (Nat.le_refl _) (Nat.le_refl _))⟩
  · have hakM1 : xgetI M1 (aa (60 * c + j)) 0 0 = some (nI j) := by
      obtain ⟨a1, a2, a3⟩ := hak
      rw [(get_f s1 a3 (by rw [a2]; simp)).1]
      exact gI a1 0 rfl
    rw [bq_102_0, Option.bind_some, gI hca.1 0 rfl, Option.bind_some, Option.bind_some, g4, Option.bind_some, Option.bind_some, g0, Option.bind_some, Option.bind_some, g3, Option.bind_some, (ho_c H.2.1).1, cond_true, k_0, e1]
    simp (decide := true) (disch := omega) only [Option.bind_some, xasI, xasL, xasR, xin_t, cond_true, cond_false, nI_clamp, k_0, k_1, k_2, k_3, k_4, k_5, k_6, k_40, k_60, k_500, k_10000, pk_mul, nI_add, nI_e0, nI_ee, nI_leI, nI_ltI, xbool0, xbool1, xbn0, xbn1, xb_0, xb_1, reduceIte, one0, Option.isNone_none, ne_eq, not_true_eq_false, not_false_eq_true, if_true, if_false, ite_not, Bool.true_and, Bool.and_true]
    rw [bq_102_21, Option.bind_some, hakM1, Option.bind_some, Option.bind_some, e2, Option.bind_some, Option.bind_some, e3, Option.bind_some, Option.bind_some, gI hak3.1 8 rfl, Option.bind_some, Option.bind_some, q50, e4, Option.bind_some]
  · refine Rep_ak R3 B3 (c := c) (j := j) (by unfold nu; rw [rup_ne _ _ _ _ (by decide), gnew_o _ _ _ _ _ _ _ (Or.inl (by decide)) (by decide)]; exact hcn) (by unfold nu; rw [rup_ne _ _ _ _ (by decide), gnew_o _ _ _ _ _ _ _ (Or.inl (by decide)) (by decide)]; exact hj) s4 ⟨sg3, ?_, ?_⟩ (fun k i h => ?_) (fun k i h => rfl)
    · unfold gsends
      rw [rup_at, rup_ne _ _ _ _ (k' := 47) (by decide), rup_ne _ _ _ _ (k' := 48) (by decide), rup_ne _ _ _ _ (k' := 54) (by decide)]
      exact h5
    · unfold gsends
      rw [rup_ne _ _ _ _ (k' := 49) (by decide), rup_ne _ _ _ _ (k' := 54) (by decide)]
      exact hsg3
    · unfold gsends
      rw [rup_r, if_neg (by omega)]
      rfl
