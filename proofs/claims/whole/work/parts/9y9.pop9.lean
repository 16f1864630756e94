/-! the protocol is kept: one giver's step -/
theorem V_agv {q : xrho} {L : xLs} {B : Int} {h r : Nat} (I : PIv q B) (n12 : nu q 12 0 ≤ 40) (hB : 0 ≤ B ∧ B < 1900000000) (hn : q.1 15 (40 * h + r) = nI 2 ∨ q.1 15 (40 * h + r) = nI 3 → nu q 82 0 < 1200) (hr : r < nu q 12 0) (hh : h < 6) (J : gvJ q) : PIv (agv q L h r).1 (B + 2) := by
  have no : PIv q (B + 2) := raise2 I (by omega)
  have Ir := I.1 r hr
  have hp : 40 * h + r < 240 := by omega
  have again : ∀ l, (ti q 15 (40 * h + r) = 2 ∨ ti q 15 (40 * h + r) = 3) → q.1 32 (40 * h + r) = 0 → nu q 82 0 < 1200 → l = nu q 82 0 → PIv (gga q h r l (nu q 29 (40 * h + r))) (B + 2) := fun l hg htk hl e => by
    subst e
    have J1 := (J (40 * h + r) hp (hg.elim (fun a => Or.inl (ti_e.mp (a.trans (by decide)))) (fun a => Or.inr (ti_e.mp (a.trans (by decide)))))).2 htk
    refine V_gga no n12 ⟨by omega, by omega⟩ hl hr hh hg (ti_k (m := 0) htk (by decide)) (nlq_ck (nlq_up (gpart_nl q h r _) (by decide))) (fun k _ hk h69 => ?_) ?_
    · unfold gga
      rw [ck3_ne (by omega) (by omega), rup_f _ _ _ _ h69]
    · unfold gga
      rw [ck3_ne (by decide) (by decide), rup_at]
      exact J1.1.symm
  unfold agv
  by_cases c2 : q.1 15 (40 * h + r) = nI 2
  · rw [if_pos c2]
    have t2 : ti q 15 (40 * h + r) = 2 := ti_k c2 (by decide)
    have hl := hn (Or.inl c2)
    by_cases c : q.1 32 (40 * h + r) = 0
    · rw [if_pos c]
      exact again _ (Or.inl t2) c hl rfl
    · rw [if_neg c]
      have t32 : ti q 32 (40 * h + r) ≠ 0 := fun e => c (ti_e.mp (e.trans (by decide)))
      by_cases cl : (L.2.1 (40 * h + r)).length = 0
      · rw [if_pos cl]
        have eq : gends (rup q 15 (40 * h + r) (nI 3)) h r (nu q 82 0) = rup (gpart (rup (rup (rup (rup q 15 (40 * h + r) (nI 3)) 29 (40 * h + r) (nI (nu q 82 0))) 28 (40 * h + r) (Int32.ofInt (-1))) 32 (40 * h + r) (nI 0)) h r (nu q 82 0)) 69 (nu q 82 0) (Int32.ofInt (-1)) := by
          unfold gends
          rw [gpart_cm _ (Or.inr (Or.inr (Or.inl rfl))), gpart_cm _ (Or.inl rfl), gpart_cm _ (Or.inr (Or.inl rfl)), rup_cm (k := 69) (k' := 29) _ (by decide), rup_cm (k := 69) (k' := 28) _ (by decide), rup_cm (k := 69) (k' := 32) _ (by decide)]
        show PIv (gends (rup q 15 (40 * h + r) (nI 3)) h r (nu q 82 0)) (B + 2)
        rw [eq]
        refine V_snd (y := Int32.ofInt (-1)) (st' := 3) I n12 ⟨by omega, by omega⟩ hl hr hh t2 t32 (Or.inr ⟨by decide, rfl⟩) (rup (rup (rup (rup q 15 (40 * h + r) (nI 3)) 29 (40 * h + r) (nI (nu q 82 0))) 28 (40 * h + r) (Int32.ofInt (-1))) 32 (40 * h + r) (nI 0)) (nlq_up (gpart_nl _ h r _) (by decide)) ⟨fun k i _ _ _ _ => by simp (disch := omega) only [rup_f, rup_f], by simp (disch := omega) only [rup_f, rup_f]⟩ (fun k h60 hk h69 => ?_) (rup_at _ _ _ _) (fun s hs hne => ⟨fun k _ _ _ => by simp (disch := omega) only [rup_f, rup_f], fun j _ => by simp (disch := omega) only [rup_f, rup_f], fun k i hk => by unfold pkf at hk; simp (disch := omega) only [rup_f, rup_y]⟩) (by simp (disch := omega) only [rup_f]) (fun S z => ?_)
        · rw [gpart_cm _ (Or.inr (Or.inr (Or.inl rfl))), gpart_cm _ (Or.inl rfl), gpart_cm _ (Or.inr (Or.inl rfl)), gpart_cm _ (Or.inr (Or.inr (Or.inr rfl)))]
          simp (disch := omega) only [rup_f]
        · have e15 : (fun i => ti (rup (rup (rup (rup q 15 (40 * h + r) (nI 3)) 29 (40 * h + r) (nI (nu q 82 0))) 28 (40 * h + r) (Int32.ofInt (-1))) 32 (40 * h + r) (nI 0)) 15 (40 * i + r)) = pfu (fun i => ti q 15 (40 * i + r)) h (3) := tv (x := nI 3) (by simp (disch := omega) only [rup_f, rup_f, rup_at]) (fun i hi => by simp (disch := omega) only [rup_f, rup_y]) (by decide)
          have e32 : (fun i => ti (rup (rup (rup (rup q 15 (40 * h + r) (nI 3)) 29 (40 * h + r) (nI (nu q 82 0))) 28 (40 * h + r) (Int32.ofInt (-1))) 32 (40 * h + r) (nI 0)) 32 (40 * i + r)) = pfu (fun i => ti q 32 (40 * i + r)) h (0) := tv (x := nI 0) (by simp (disch := omega) only [rup_f, rup_f, rup_at]) (fun i hi => by simp (disch := omega) only [rup_f, rup_y]) (by decide)
          have e28 : (fun i => ti (rup (rup (rup (rup q 15 (40 * h + r) (nI 3)) 29 (40 * h + r) (nI (nu q 82 0))) 28 (40 * h + r) (Int32.ofInt (-1))) 32 (40 * h + r) (nI 0)) 28 (40 * i + r)) = pfu (fun i => ti q 28 (40 * i + r)) h ((Int32.ofInt (-1)).toInt) := tv (x := Int32.ofInt (-1)) (by simp (disch := omega) only [rup_f, rup_f, rup_at]) (fun i hi => by simp (disch := omega) only [rup_f, rup_y]) rfl
          unfold pvS
          rw [e15, e32, e28]
          exact z
      · rw [if_neg cl]
        have al := gvA_len (L.1 (40 * h + r)) (L.2.1 (40 * h + r))
        show PIv (ggv q h r (nu q 82 0) (gvA (L.1 (40 * h + r)) (L.2.1 (40 * h + r)))) (B + 2)
        generalize gvA (L.1 (40 * h + r)) (L.2.1 (40 * h + r)) = acc at al ⊢
        have eq : ggv q h r (nu q 82 0) acc = rup (wrP (gpart (rup (rup (rup q 29 (40 * h + r) (nI (nu q 82 0))) 28 (40 * h + r) (nI acc.length)) 32 (40 * h + r) (nI 0)) h r (nu q 82 0)) (nu q 82 0) acc) 69 (nu q 82 0) (nI acc.length) := by
          unfold ggv
          rw [gpart_cm _ (Or.inr (Or.inr (Or.inl rfl))), gpart_cm _ (Or.inl rfl), gpart_cm _ (Or.inr (Or.inl rfl)), wrP_cm _ (by decide) (by decide), wrP_cm _ (by decide) (by decide), wrP_cm _ (by decide) (by decide), rup_cm (k := 69) (k' := 29) _ (by decide), rup_cm (k := 69) (k' := 28) _ (by decide), rup_cm (k := 69) (k' := 32) _ (by decide)]
        rw [eq]
        refine V_snd (y := nI acc.length) (st' := 2) I n12 ⟨by omega, by omega⟩ hl hr hh t2 t32 (Or.inl ⟨by rw [nI_toInt (by omega)]; omega, rfl⟩) (rup (rup (rup q 29 (40 * h + r) (nI (nu q 82 0))) 28 (40 * h + r) (nI acc.length)) 32 (40 * h + r) (nI 0)) (nlq_up (nlq_wr (gpart_nl _ h r _)) (by decide)) ⟨fun k i _ _ _ _ => by simp (disch := omega) only [rup_f, rup_f], by simp (disch := omega) only [rup_f, rup_f]⟩ (fun k h60 hk h69 => ?_) (rup_at _ _ _ _) (fun s hs hne => ⟨fun k _ _ _ => by simp (disch := omega) only [rup_f, rup_f], fun j _ => by simp (disch := omega) only [rup_f, rup_f], fun k i hk => by unfold pkf at hk; simp (disch := omega) only [rup_f, rup_y]⟩) (by simp (disch := omega) only [rup_f]) (fun S z => ?_)
        · rw [rup_f _ _ _ _ h69, wrP_1, if_neg (by omega), if_neg (by omega), gpart_cm _ (Or.inr (Or.inr (Or.inl rfl))), gpart_cm _ (Or.inl rfl), gpart_cm _ (Or.inr (Or.inl rfl))]
          simp (disch := omega) only [rup_f]
        · have e15 : (fun i => ti (rup (rup (rup q 29 (40 * h + r) (nI (nu q 82 0))) 28 (40 * h + r) (nI acc.length)) 32 (40 * h + r) (nI 0)) 15 (40 * i + r)) = pfu (fun i => ti q 15 (40 * i + r)) h 2 := tv (x := q.1 15 (40 * h + r)) (by simp (disch := omega) only [rup_f]) (fun i hi => by simp (disch := omega) only [rup_y]) t2
          have e32 : (fun i => ti (rup (rup (rup q 29 (40 * h + r) (nI (nu q 82 0))) 28 (40 * h + r) (nI acc.length)) 32 (40 * h + r) (nI 0)) 32 (40 * i + r)) = pfu (fun i => ti q 32 (40 * i + r)) h (0) := tv (x := nI 0) (by simp (disch := omega) only [rup_f, rup_f, rup_at]) (fun i hi => by simp (disch := omega) only [rup_f, rup_y]) (by decide)
          have e28 : (fun i => ti (rup (rup (rup q 29 (40 * h + r) (nI (nu q 82 0))) 28 (40 * h + r) (nI acc.length)) 32 (40 * h + r) (nI 0)) 28 (40 * i + r)) = pfu (fun i => ti q 28 (40 * i + r)) h ((nI acc.length).toInt) := tv (x := nI acc.length) (by simp (disch := omega) only [rup_f, rup_f, rup_at]) (fun i hi => by simp (disch := omega) only [rup_f, rup_y]) rfl
          unfold pvS
          rw [e15, e32, e28]
          exact z
  · rw [if_neg c2]
    by_cases c3 : q.1 15 (40 * h + r) = nI 3
    · rw [if_pos c3]
      have t3 : ti q 15 (40 * h + r) = 3 := ti_k c3 (by decide)
      have hl := hn (Or.inr c3)
      have o : (ti q 15 (40 * h + r) = 2 → ti q 32 (40 * h + r) = 0 → 0 ≤ ti q 28 (40 * h + r)) ∧ (ti q 15 (40 * h + r) = 2 → ti q 33 (40 * h + r) = 0) ∧ (ti q 33 (40 * h + r) ≠ 0 → ti q 32 (40 * h + r) ≠ 0) ∧ (ti q 15 (40 * h + r) = 3 → ti q 33 (40 * h + r) = 0 → ti q 32 (40 * h + r) = 0 ∧ ti q 28 (40 * h + r) < 0) := Pin_o Ir h (Or.inr t3)
      by_cases c : q.1 33 (40 * h + r) = 0
      · rw [if_pos c]
        exact again _ (Or.inr t3) (ti_e.mp ((o.2.2.2 t3 (ti_k (m := 0) c (by decide))).1.trans (by decide))) hl rfl
      · rw [if_neg c]
        have q2 : ti q 18 (40 * h + r) ≤ B ∧ ti q 22 (40 * h + r) ≤ B ∧ ti q 23 (40 * h + r) ≤ B := Pin_q2 Ir h
        exact V_dn no n12 (by omega) hl hr (Or.inr t3) (fun e => c (ti_e.mp (e.trans (by decide)))) (ti_add (by unfold ti at q2; omega))
    · rw [if_neg c3]
      exact no
