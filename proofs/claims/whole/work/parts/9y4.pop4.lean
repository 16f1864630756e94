/-! the protocol is kept: what the taker's answers do -/
theorem V_dn {q : xrho} {B : Int} {h r : Nat} {e : Int32} (I : PIv q B) (n12 : nu q 12 0 ≤ 40) (hB : 0 ≤ B) (hn : nu q 82 0 < 1200) (hr : r < nu q 12 0) (hg : ti q 15 (40 * h + r) = 2 ∨ ti q 15 (40 * h + r) = 3) (het : ti q 33 (40 * h + r) ≠ 0) (he : e.toInt = ti q 18 (40 * h + r) + 1) : PIv (gnew q (nu q 82 0) (nI 6) (nI 0) (nI h) (nI r) e) B := by
  have a := gnew_at q (nu q 82 0) (nI 6) (nI 0) (nI h) (nI r) e
  have x0 : msg (gnew q (nu q 82 0) (nI 6) (nI 0) (nI h) (nI r) e) (nu q 82 0) 0 = 6 := (congrArg Int32.toInt a.1).trans (by decide)
  have x3 : msg (gnew q (nu q 82 0) (nI 6) (nI 0) (nI h) (nI r) e) (nu q 82 0) 3 = e.toInt := congrArg Int32.toInt a.2.2.2.2.1
  have x4 : msg (gnew q (nu q 82 0) (nI 6) (nI 0) (nI h) (nI r) e) (nu q 82 0) 4 = -9 := (congrArg Int32.toInt a.2.2.2.2.2.2.1).trans (by decide)
  have x5 : msg (gnew q (nu q 82 0) (nI 6) (nI 0) (nI h) (nI r) e) (nu q 82 0) 5 = -9 := (congrArg Int32.toInt a.2.2.2.2.2.2.2.1).trans (by decide)
  generalize msg (gnew q (nu q 82 0) (nI 6) (nI 0) (nI h) (nI r) e) (nu q 82 0) = x at x0 x3 x4 x5
  refine PIv_nl I (nlq_new _ _ _ _ _ _ _) hn n12 (fun s hs es => ?_) (Or.inl ⟨r, hr, a.2.2.2.1⟩)
  have es : s = r := by
    rw [a.2.2.2.1, nI_ee (by omega) (by omega)] at es
    omega
  subst es
  have Ir := I.1 s hs
  have v0 : 0 ≤ ti q 8 s := Pin_v0 Ir
  have pe : ti q 18 (40 * h + s) = ti q 8 s - 1 ∧ 0 ≤ ti q 23 (40 * h + s) := Pin_e Ir h hg
  have hH : 0 ≤ ti q 7 s → (h : Int) = ti q 6 s := fun hT => Classical.byContradiction fun hc => by
    have := (Pin_b Ir h (hg.elim (fun e => Or.inr (Or.inl e)) (fun e => Or.inr (Or.inr e))) hc).1
    omega
  have x0' : msg (gnew q (nu q 82 0) (nI 6) (nI 0) (nI h) (nI s) e) (nu q 82 0) 0 = 6 := (congrArg Int32.toInt a.1).trans (by decide)
  have x3' : msg (gnew q (nu q 82 0) (nI 6) (nI 0) (nI h) (nI s) e) (nu q 82 0) 3 = e.toInt := congrArg Int32.toInt a.2.2.2.2.1
  have x4' : msg (gnew q (nu q 82 0) (nI 6) (nI 0) (nI h) (nI s) e) (nu q 82 0) 4 = -9 := (congrArg Int32.toInt a.2.2.2.2.2.2.1).trans (by decide)
  have x5' : msg (gnew q (nu q 82 0) (nI 6) (nI 0) (nI h) (nI s) e) (nu q 82 0) 5 = -9 := (congrArg Int32.toInt a.2.2.2.2.2.2.2.1).trans (by decide)
  generalize msg (gnew q (nu q 82 0) (nI 6) (nI 0) (nI h) (nI s) e) (nu q 82 0) = x at x0' x3' x4' x5' ⊢
  unfold pok pokM
  refine ⟨fun _ => ⟨by omega, fun e => absurd e (by omega)⟩, fun _ => ⟨by omega, by omega, by omega⟩, fun e => absurd e (by omega), fun e => absurd e (by omega), fun e => absurd e (by omega), fun e => absurd e (by omega), fun e => absurd e (by omega), fun _ e => absurd e (by omega), fun _ _ e => absurd e (by omega), fun _ _ e => absurd e (by omega), fun e => absurd e (by omega), fun _ e => absurd e (by omega), fun _ e => absurd e (by omega), fun hT i hi h1 _ => ?_, fun _ _ _ _ _ _ e => absurd e (by omega), fun _ _ _ _ _ _ e => absurd e (by omega), fun _ _ _ _ _ _ _ e => absurd e (by omega), fun hT i hi hgi _ _ => ?_⟩
  · have ei : i = h := by have := hH hT; omega
    subst ei
    exfalso
    have h1' : ti q 15 (40 * i + s) = 1 := h1
    omega
  · have ei : i = h := by have := hH hT; omega
    subst ei
    exact het
theorem V_atook {q : xrho} {L : xLs} {B : Int} {l h r : Nat} (I : PIv q B) (n12 : nu q 12 0 ≤ 40) (hB : 0 ≤ B ∧ B < 2000000000) (hn : nu q 82 0 < 1200) (hl : l < nu q 82 0) (h63 : q.1 63 l = nI r) (hr : r < 40) (h60 : q.1 60 l = nI 5) : PIv (atook q L l h r).1 (B + 2) := by
  have k3 : ti q 60 l = 5 := ti_k h60 (by decide)
  have hr' := rg_lt I hl h63 hr (by omega)
  have Ir := I.1 r hr'
  have hS : pS q r (msg q l) := ⟨l, hl, h63, rfl⟩
  have q2 : ti q 18 (40 * h + r) ≤ B ∧ ti q 22 (40 * h + r) ≤ B ∧ ti q 23 (40 * h + r) ≤ B := Pin_q2 Ir h
  have no : PIv q (B + 2) := ⟨fun s hs => pv_raise (I.1 s hs) (by omega), I.2⟩
  unfold atook
  by_cases c : gheard q l (40 * h + r)
  · rw [if_pos c]
    have hg : ti q 15 (40 * h + r) = 2 ∨ ti q 15 (40 * h + r) = 3 := c.1.elim (fun a => Or.inl (ti_k (m := 2) a (by decide))) (fun a => Or.inr (ti_k (m := 3) a (by decide)))
    have hep : ti q 18 (40 * h + r) + 1 = msg q l 3 := by
      show (q.1 18 (40 * h + r)).toInt + 1 = (q.1 64 l).toInt
      unfold ti at q2
      rw [← c.2.1]
      exact (ti_add (by omega)).symm
    have hac : ti q 22 (40 * h + r) = msg q l 4 := congrArg Int32.toInt c.2.2
    have t32 : q.1 32 (40 * h + r) = 0 → ti q 32 (40 * h + r) = 0 := fun e => by
      unfold ti
      rw [e]
      decide
    have t33 : q.1 33 (40 * h + r) = 0 → ti q 33 (40 * h + r) = 0 := fun e => by
      unfold ti
      rw [e]
      decide
    by_cases d : 0 ≤ q.1 68 l
    · rw [if_pos d]
      by_cases f : q.1 32 (40 * h + r) = 0 ∧ q.1 68 l = q.1 23 (40 * h + r)
      · rw [if_pos f]
        have hm0 : 0 ≤ msg q l 5 := ti_le0.mp d
        have hm : msg q l 5 = ti q 23 (40 * h + r) := congrArg Int32.toInt f.2
        have f23 : (q.1 23 (40 * h + r) + nI 1).toInt = ti q 23 (40 * h + r) + 1 := ti_add (by unfold ti at q2; omega)
        by_cases g : q.1 28 (40 * h + r) < 0
        · rw [if_pos g]
          have sl : sal q (rup (gtkB q (40 * h + r)) 33 (40 * h + r) (nI 1)) := ⟨fun k i _ _ _ _ => by simp (disch := omega) only [gtkB, rup_f], by simp (disch := omega) only [gtkB, rup_f]⟩
          have I1 : PIv (rup (gtkB q (40 * h + r)) 33 (40 * h + r) (nI 1)) (B + 2) := by
            refine PIv_1 I (by omega) (by simp (disch := omega) only [gtkB, rup_f]) (fun s hs hne => ⟨⟨fun k _ _ _ => by simp (disch := omega) only [gtkB, rup_f], fun j _ => by simp (disch := omega) only [gtkB, rup_f], fun k i hk => by unfold pkf at hk; simp (disch := omega) only [gtkB, rup_y]⟩, pS_sal sl s⟩) n12 hr' ?_
            have t := pt_tookend Ir h (msg q l) hS k3 hg hep hac hm0 (t32 f.1) hm (ti_lt0.mp g)
            have e32 : (fun i => ti (rup (gtkB q (40 * h + r)) 33 (40 * h + r) (nI 1)) 32 (40 * i + r)) = pfu (fun i => ti q 32 (40 * i + r)) h (1) := tu q 32 h r (nI 1) (1) (by decide)
            have e33 : (fun i => ti (rup (gtkB q (40 * h + r)) 33 (40 * h + r) (nI 1)) 33 (40 * i + r)) = pfu (fun i => ti q 33 (40 * i + r)) h (1) := tu q 33 h r (nI 1) (1) (by decide)
            have e23 : (fun i => ti (rup (gtkB q (40 * h + r)) 33 (40 * h + r) (nI 1)) 23 (40 * i + r)) = pfu (fun i => ti q 23 (40 * i + r)) h (ti q 23 (40 * h + r) + 1) := tu q 23 h r (q.1 23 (40 * h + r) + nI 1) (ti q 23 (40 * h + r) + 1) f23
            unfold pv pvS
            rw [pS_sal sl, e32, e33, e23]
            exact t
          have n1 : nu (rup (gtkB q (40 * h + r)) 33 (40 * h + r) (nI 1)) 82 0 = nu q 82 0 := nu_e sl.2
          have m1 : nu (rup (gtkB q (40 * h + r)) 33 (40 * h + r) (nI 1)) 12 0 = nu q 12 0 := nu_e (by simp (disch := omega) only [gtkB, rup_f])
          have z15 : ti (rup (gtkB q (40 * h + r)) 33 (40 * h + r) (nI 1)) 15 (40 * h + r) = ti q 15 (40 * h + r) := by unfold ti; simp (disch := omega) only [gtkB, rup_f]
          have z18 : ti (rup (gtkB q (40 * h + r)) 33 (40 * h + r) (nI 1)) 18 (40 * h + r) = ti q 18 (40 * h + r) := by unfold ti; simp (disch := omega) only [gtkB, rup_f]
          have I2 := V_dn (h := h) (r := r) (e := q.1 64 l) I1 (by omega) (by omega) (by omega) (by omega) (by rw [z15]; exact hg) (by
            rw [ti_at]
            decide) (by
            rw [z18]
            exact hep.symm)
          rw [n1] at I2
          exact I2
        · rw [if_neg g]
          have sl : sal q (gtkB q (40 * h + r)) := ⟨fun k i _ _ _ _ => by simp (disch := omega) only [gtkB, rup_f], by simp (disch := omega) only [gtkB, rup_f]⟩
          refine PIv_1 I (by omega) (by simp (disch := omega) only [gtkB, rup_f]) (fun s hs hne => ⟨⟨fun k _ _ _ => by simp (disch := omega) only [gtkB, rup_f], fun j _ => by simp (disch := omega) only [gtkB, rup_f], fun k i hk => by unfold pkf at hk; simp (disch := omega) only [gtkB, rup_y]⟩, pS_sal sl s⟩) n12 hr' ?_
          have t := pt_tookok Ir h (msg q l) hS k3 hg hep hac hm0 (t32 f.1) hm (by
            have := mt ti_lt0.mpr g
            show 0 ≤ (q.1 28 (40 * h + r)).toInt
            omega)
          have e32 : (fun i => ti (gtkB q (40 * h + r)) 32 (40 * i + r)) = pfu (fun i => ti q 32 (40 * i + r)) h (1) := tu q 32 h r (nI 1) (1) (by decide)
          have e23 : (fun i => ti (gtkB q (40 * h + r)) 23 (40 * i + r)) = pfu (fun i => ti q 23 (40 * i + r)) h (ti q 23 (40 * h + r) + 1) := tu q 23 h r (q.1 23 (40 * h + r) + nI 1) (ti q 23 (40 * h + r) + 1) f23
          unfold pv pvS
          rw [pS_sal sl, e32, e23]
          exact t
      · rw [if_neg f]
        exact no
    · rw [if_neg d]
      by_cases f : q.1 33 (40 * h + r) = 0
      · rw [if_pos f]
        have sl : sal q (gtkA q (40 * h + r)) := ⟨fun k i _ _ _ _ => by simp (disch := omega) only [gtkA, rup_f], by simp (disch := omega) only [gtkA, rup_f]⟩
        refine PIv_1 I (by omega) (by simp (disch := omega) only [gtkA, rup_f]) (fun s hs hne => ⟨⟨fun k _ _ _ => by simp (disch := omega) only [gtkA, rup_f], fun j _ => by simp (disch := omega) only [gtkA, rup_f], fun k i hk => by unfold pkf at hk; simp (disch := omega) only [gtkA, rup_y]⟩, pS_sal sl s⟩) n12 hr' ?_
        have t := pt_tookno Ir h (msg q l) hS k3 hg hep hac (by
          have := mt ti_le0.mpr d
          show (q.1 68 l).toInt < 0
          omega) (t33 f)
        have e15 : (fun i => ti (gtkA q (40 * h + r)) 15 (40 * i + r)) = pfu (fun i => ti q 15 (40 * i + r)) h (2) := tu q 15 h r (nI 2) (2) (by decide)
        have e22 : (fun i => ti (gtkA q (40 * h + r)) 22 (40 * i + r)) = pfu (fun i => ti q 22 (40 * i + r)) h (ti q 22 (40 * h + r) + 1) := tu q 22 h r (q.1 22 (40 * h + r) + nI 1) (ti q 22 (40 * h + r) + 1) (ti_add (by unfold ti at q2; omega))
        have e23 : (fun i => ti (gtkA q (40 * h + r)) 23 (40 * i + r)) = pfu (fun i => ti q 23 (40 * i + r)) h (0) := tu q 23 h r (nI 0) (0) (by decide)
        have e32 : (fun i => ti (gtkA q (40 * h + r)) 32 (40 * i + r)) = pfu (fun i => ti q 32 (40 * i + r)) h (1) := tu q 32 h r (nI 1) (1) (by decide)
        unfold pv pvS
        rw [pS_sal sl, e15, e22, e23, e32]
        exact t
      · rw [if_neg f]
        exact no
  · rw [if_neg c]
    exact no
