/-! the protocol is kept: what a letter does at a host -/
theorem rg_lt {q : xrho} {B : Int} {l r : Nat} (I : PIv q B) (hl : l < nu q 82 0) (h63 : q.1 63 l = nI r) (hr : r < 40) (hk : 3 ≤ ti q 60 l) : r < nu q 12 0 := Classical.byContradiction fun hc => by
  have := (I.2 r (by omega) hr).2.2.2.1 (msg q l) ⟨l, hl, h63, rfl⟩
  have e : msg q l 0 = ti q 60 l := rfl
  omega
theorem ti_k {q : xrho} {k i m : Nat} (h : q.1 k i = nI m) (hm : m < 2 ^ 31) : ti q k i = m := by
  unfold ti
  rw [h, nI_toInt hm]
theorem V_beg {q : xrho} {L : xLs} {B : Int} {l h r : Nat} (I : PIv q B) (n12 : nu q 12 0 ≤ 40) (hl : l < nu q 82 0) (h63 : q.1 63 l = nI r) (hr : r < 40) (h60 : q.1 60 l = nI 3) : PIv (abeg q L l (40 * h + r)).1 (B + 2) := by
  have k3 : ti q 60 l = 3 := ti_k h60 (by decide)
  have hr' := rg_lt I hl h63 hr (by omega)
  have Ir := I.1 r hr'
  have hS : pS q r (msg q l) := ⟨l, hl, h63, rfl⟩
  have q3 := Pin_q3 Ir (msg q l) hS (show 3 ≤ ti q 60 l by omega)
  unfold abeg
  by_cases c : q.1 15 (40 * h + r) = nI 1 ∧ q.1 18 (40 * h + r) = q.1 64 l - nI 1
  · rw [if_pos c]
    have sl : sal q (gbgq q l (40 * h + r)) := ⟨fun k i _ _ _ _ => by simp (disch := omega) only [gbgq, rup_f], by simp (disch := omega) only [gbgq, rup_f]⟩
    refine PIv_1 I (by omega) (by simp (disch := omega) only [gbgq, rup_f]) (fun s hs hne => ⟨⟨fun k _ _ _ => by simp (disch := omega) only [gbgq, rup_f], fun j _ => by simp (disch := omega) only [gbgq, rup_f], fun k i hk => by unfold pkf at hk; simp (disch := omega) only [gbgq, rup_y]⟩, pS_sal sl s⟩) n12 hr' ?_
    have t := pt_begin Ir h (msg q l) hS k3 (ti_k c.1 (by decide)) (by
      show ti q 18 (40 * h + r) = ti q 64 l - 1
      unfold ti
      rw [c.2, ti_sub (x := q.1 64 l) q3.1])
    have e15 : (fun i => ti (gbgq q l (40 * h + r)) 15 (40 * i + r)) = pfu (fun i => ti q 15 (40 * i + r)) h 2 := tu q 15 h r (nI 2) 2 (by decide)
    have e21 : (fun i => ti (gbgq q l (40 * h + r)) 21 (40 * i + r)) = pfu (fun i => ti q 21 (40 * i + r)) h (msg q l 9) := tu q 21 h r (q.1 72 l) _ rfl
    have e22 : (fun i => ti (gbgq q l (40 * h + r)) 22 (40 * i + r)) = pfu (fun i => ti q 22 (40 * i + r)) h 1 := tu q 22 h r (nI 1) 1 (by decide)
    have e23 : (fun i => ti (gbgq q l (40 * h + r)) 23 (40 * i + r)) = pfu (fun i => ti q 23 (40 * i + r)) h 0 := tu q 23 h r (nI 0) 0 (by decide)
    have e32 : (fun i => ti (gbgq q l (40 * h + r)) 32 (40 * i + r)) = pfu (fun i => ti q 32 (40 * i + r)) h 1 := tu q 32 h r (nI 1) 1 (by decide)
    have e33 : (fun i => ti (gbgq q l (40 * h + r)) 33 (40 * i + r)) = pfu (fun i => ti q 33 (40 * i + r)) h 0 := tu q 33 h r (nI 0) 0 (by decide)
    unfold pv pvS
    rw [pS_sal sl, e15, e21, e22, e23, e32, e33]
    exact t
  · rw [if_neg c]
    exact ⟨fun s hs => pv_raise (I.1 s hs) (by omega), I.2⟩

/-- the host opens -/
theorem V_open {q : xrho} {B : Int} {l h r : Nat} (I : PIv q B) (n12 : nu q 12 0 ≤ 40) (hl : l < nu q 82 0) (h63 : q.1 63 l = nI r) (hr : r < 40) (h60 : q.1 60 l = nI 7) (h61 : q.1 61 l = nI h) (hh : h < 6) : PIv (gopen q (40 * h + r) (q.1 64 l)) (B + 2) := by
  have k3 : ti q 60 l = 7 := ti_k h60 (by decide)
  have hr' := rg_lt I hl h63 hr (by omega)
  have Ir := I.1 r hr'
  have hS : pS q r (msg q l) := ⟨l, hl, h63, rfl⟩
  unfold gopen
  by_cases c : q.1 15 (40 * h + r) = nI 5 ∧ q.1 18 (40 * h + r) = q.1 64 l
  · rw [if_pos c]
    have sl : sal q (rup q 15 (40 * h + r) (nI 1)) := ⟨fun k i _ _ _ _ => by simp (disch := omega) only [rup_f, rup_f], by simp (disch := omega) only [rup_f, rup_f]⟩
    refine PIv_1 I (by omega) (by simp (disch := omega) only [rup_f]) (fun s hs hne => ⟨⟨fun k _ _ _ => by simp (disch := omega) only [rup_f, rup_f], fun j _ => by simp (disch := omega) only [rup_f, rup_f], fun k i hk => by unfold pkf at hk; simp (disch := omega) only [rup_f, rup_y]⟩, pS_sal sl s⟩) n12 hr' ?_
    have t := pt_open Ir h (msg q l) hS k3 (ti_k h61 (by omega)).symm (ti_k c.1 (by decide)) (by
      show ti q 18 (40 * h + r) = ti q 64 l
      unfold ti
      rw [c.2])
    have e15 : (fun i => ti (rup q 15 (40 * h + r) (nI 1)) 15 (40 * i + r)) = pfu (fun i => ti q 15 (40 * i + r)) h (1) := tu q 15 h r (nI 1) (1) (by decide)
    unfold pv pvS
    rw [pS_sal sl, e15]
    exact t
  · rw [if_neg c]
    exact ⟨fun s hs => pv_raise (I.1 s hs) (by omega), I.2⟩
theorem V_go {q : xrho} {B : Int} {l h r : Nat} (I : PIv q B) (n12 : nu q 12 0 ≤ 40) (hB : B < 2000000000) (hl : l < nu q 82 0) (h63 : q.1 63 l = nI r) (hr : r < 40) (h60 : q.1 60 l = nI 9) (h61 : q.1 61 l = nI h) (hh : h < 6) (c : q.1 15 (40 * h + r) = nI 3 ∧ q.1 18 (40 * h + r) + nI 1 = q.1 64 l) : PIv (ggoq q h r (40 * h + r) (q.1 64 l)) (B + 2) := by
  have k3 : ti q 60 l = 9 := ti_k h60 (by decide)
  have hr' := rg_lt I hl h63 hr (by omega)
  have Ir := I.1 r hr'
  have hS : pS q r (msg q l) := ⟨l, hl, h63, rfl⟩
  have q2 := (Pin_q2 Ir h).1
  have sl : sal q (ggoq q h r (40 * h + r) (q.1 64 l)) := ⟨fun k i _ _ _ _ => by simp (disch := omega) only [ggoq, rup_f], by simp (disch := omega) only [ggoq, rup_f]⟩
  refine PIv_1 I (by omega) (by simp (disch := omega) only [ggoq, rup_f]) (fun s hs hne => ⟨⟨fun k _ _ _ => by simp (disch := omega) only [ggoq, rup_f], fun j _ => by simp (disch := omega) only [ggoq, rup_f], fun k i hk => by unfold pkf at hk; simp (disch := omega) only [ggoq, rup_f, rup_y]⟩, pS_sal sl s⟩) n12 hr' ?_
  have t := pt_go Ir h (msg q l) hS k3 (ti_k h61 (by omega)).symm (ti_k c.1 (by decide)) (by
    show ti q 18 (40 * h + r) + 1 = ti q 64 l
    unfold ti at *
    rw [← c.2, ti_add (by omega)])
  have e15 : (fun i => ti (ggoq q h r (40 * h + r) (q.1 64 l)) 15 (40 * i + r)) = pfu (fun i => ti q 15 (40 * i + r)) h (0) := tu q 15 h r (nI 0) (0) (by decide)
  unfold pv pvS
  rw [pS_sal sl, e15]
  exact t
theorem V_und {q : xrho} {B : Int} {l h r : Nat} (I : PIv q B) (n12 : nu q 12 0 ≤ 40) (hB : B < 2000000000) (hl : l < nu q 82 0) (h63 : q.1 63 l = nI r) (hr : r < 40) (h60 : q.1 60 l = nI 11) (h61 : q.1 61 l = nI h) (hh : h < 6) : PIv (gund q (40 * h + r) (q.1 64 l)) (B + 2) := by
  have k3 : ti q 60 l = 11 := ti_k h60 (by decide)
  have hr' := rg_lt I hl h63 hr (by omega)
  have Ir := I.1 r hr'
  have hS : pS q r (msg q l) := ⟨l, hl, h63, rfl⟩
  have q3 := (Pin_q3 Ir (msg q l) hS (show 3 ≤ ti q 60 l by omega)).1
  have qf := (Pin_f Ir (msg q l) hS (show 3 ≤ ti q 60 l by omega)).1
  have qv := (Pin_q Ir).2.2.2
  have e3 : msg q l 3 = (q.1 64 l).toInt := rfl
  unfold gund
  by_cases c : gown q (40 * h + r) ∧ q.1 18 (40 * h + r) = q.1 64 l - nI 1
  · rw [if_pos c]
    have sl : sal q (rup (rup q 15 (40 * h + r) (nI 1)) 18 (40 * h + r) (q.1 64 l + nI 1)) := ⟨fun k i _ _ _ _ => by simp (disch := omega) only [rup_f, rup_f], by simp (disch := omega) only [rup_f, rup_f]⟩
    refine PIv_1 I (by omega) (by simp (disch := omega) only [rup_f]) (fun s hs hne => ⟨⟨fun k _ _ _ => by simp (disch := omega) only [rup_f, rup_f], fun j _ => by simp (disch := omega) only [rup_f, rup_f], fun k i hk => by unfold pkf at hk; simp (disch := omega) only [rup_f, rup_y]⟩, pS_sal sl s⟩) n12 hr' ?_
    have t := pt_undoL Ir h (msg q l) hS k3 (ti_k h61 (by omega)).symm (by
      rcases c.1 with a | a | a
      · exact Or.inl (ti_k (m := 1) a (by decide))
      · exact Or.inr (Or.inl (ti_k (m := 2) a (by decide)))
      · exact Or.inr (Or.inr (ti_k (m := 3) a (by decide)))) (by
      show ti q 18 (40 * h + r) = ti q 64 l - 1
      unfold ti
      rw [c.2, ti_sub (x := q.1 64 l) (by omega)])
    have e15 : (fun i => ti (rup (rup q 15 (40 * h + r) (nI 1)) 18 (40 * h + r) (q.1 64 l + nI 1)) 15 (40 * i + r)) = pfu (fun i => ti q 15 (40 * i + r)) h (1) := tu q 15 h r (nI 1) (1) (by decide)
    have e18 : (fun i => ti (rup (rup q 15 (40 * h + r) (nI 1)) 18 (40 * h + r) (q.1 64 l + nI 1)) 18 (40 * i + r)) = pfu (fun i => ti q 18 (40 * i + r)) h (msg q l 3 + 1) := tu q 18 h r (q.1 64 l + nI 1) (msg q l 3 + 1) (ti_add (by omega))
    unfold pv pvS
    rw [pS_sal sl, e15, e18]
    exact t
  · rw [if_neg c]
    exact ⟨fun s hs => pv_raise (I.1 s hs) (by omega), I.2⟩
/-- what a host took for nothing -/
theorem V_drop {q : xrho} {B : Int} {h r : Nat} (I : PIv q B) (n12 : nu q 12 0 ≤ 40) (hr : r < nu q 12 0) (c : q.1 15 (40 * h + r) = nI 4 ∨ q.1 15 (40 * h + r) = nI 5) : PIv (rup q 15 (40 * h + r) (nI 0)) (B + 2) := by
  have Ir := I.1 r hr
  have sl : sal q (rup q 15 (40 * h + r) (nI 0)) := ⟨fun k i _ _ _ _ => by simp (disch := omega) only [rup_f, rup_f], by simp (disch := omega) only [rup_f, rup_f]⟩
  refine PIv_1 I (by omega) (by simp (disch := omega) only [rup_f]) (fun s hs hne => ⟨⟨fun k _ _ _ => by simp (disch := omega) only [rup_f, rup_f], fun j _ => by simp (disch := omega) only [rup_f, rup_f], fun k i hk => by unfold pkf at hk; simp (disch := omega) only [rup_f, rup_y]⟩, pS_sal sl s⟩) n12 hr ?_
  have t := pt_drop Ir h (c.elim (fun a => Or.inl (ti_k a (by decide))) (fun a => Or.inr (ti_k a (by decide))))
  have e15 : (fun i => ti (rup q 15 (40 * h + r) (nI 0)) 15 (40 * i + r)) = pfu (fun i => ti q 15 (40 * i + r)) h (0) := tu q 15 h r (nI 0) (0) (by decide)
  unfold pv pvS
  rw [pS_sal sl, e15]
  exact t
