/-! the protocol is kept: the book -/
theorem pok_g {q : xrho} {r : Nat} {B : Int} {x : Nat → Int} (hk : x 0 ≠ 4 ∧ x 0 ≠ 5 ∧ x 0 ≠ 6 ∧ x 0 ≠ 7) (hf : x 3 ≤ ti q 8 r ∧ 0 ≤ x 3 ∧ x 4 ≤ B ∧ x 5 ≤ B) (h3 : x 0 = 3 → 0 ≤ ti q 7 r → x 3 = ti q 8 r → x 9 = ti q 7 r) (h8 : x 0 = 8 → (∃ m', pS q r m' ∧ m' 0 = 7 ∧ m' 3 = x 3 ∧ m' 1 = x 2) ∧ ∀ h : Nat, (h : Int) = x 2 → prcv (fun i => ti q 15 (40 * i + r)) h → ti q 18 (40 * h + r) ≠ x 3) (h9 : x 0 = 9 → x 3 = ti q 8 r → ti q 7 r < 0 ∧ x 1 = ti q 10 r) (h10 : x 0 = 10 → x 3 = ti q 8 r → ti q 7 r < 0 ∧ ∀ h : Nat, (h : Int) ≠ ti q 6 r → ¬ pown (fun i => ti q 15 (40 * i + r)) h) (h11 : x 0 = 11 → x 3 = ti q 8 r → ti q 7 r < 0 ∧ x 1 = ti q 6 r) (h12 : x 0 = 12 → x 3 = ti q 8 r → ti q 7 r < 0 ∧ ∀ h : Nat, (h : Int) = ti q 6 r → pown (fun i => ti q 15 (40 * i + r)) h → ti q 18 (40 * h + r) ≠ ti q 8 r - 1) : pok q r B x := by
  unfold pok pokM
  obtain ⟨n4, n5, n6, n7⟩ := hk
  exact ⟨fun _ => ⟨hf.1, fun e => absurd e n4⟩, fun _ => hf.2, fun e => absurd e n7, h9, h10, h11, h12, fun _ e => absurd e n7, fun _ _ e => absurd e n7, fun _ _ e => absurd e n4, h8, fun _ e => absurd e n4, fun a e f => h3 e a f, fun _ _ _ _ e => absurd e (fun f => f.elim n4 (fun g => g.elim n5 n6)), fun _ _ _ _ _ _ e => absurd e n4, fun _ _ _ _ _ _ e => absurd e n5, fun _ _ _ _ _ _ _ e => absurd e n4, fun _ _ _ _ e => absurd e n6⟩
theorem pS_ne {q q' : xrho} {r : Nat} (e : nlq q (nu q 82 0) q') (hl : nu q 82 0 < 1200) (h : q'.1 63 (nu q 82 0) ≠ nI r) : pS q' r = pS q r := funext fun m => propext ((pS_nl e hl r m).trans ⟨fun x => x.elim id (fun y => absurd y.1 h), Or.inl⟩)
theorem pS_eq {q q' : xrho} {r : Nat} (e : nlq q (nu q 82 0) q') (hl : nu q 82 0 < 1200) (h : q'.1 63 (nu q 82 0) = nI r) : pS q' r = fun m => pS q r m ∨ m = msg q' (nu q 82 0) := funext fun m => propext ((pS_nl e hl r m).trans ⟨fun x => x.elim Or.inl (fun y => Or.inr y.2), fun x => x.elim Or.inl (fun y => Or.inr ⟨h, y⟩)⟩)
theorem V_set1 {q : xrho} {B : Int} {l r j : Nat} (I : PIv q B) (n12 : nu q 12 0 ≤ 40) (hl : l < nu q 82 0) (h63 : q.1 63 l = nI r) (hr : r < 40) (hj : j < 4) (h60 : q.1 60 l = nI (8 + 2 * j)) : PIv (gset1 q r j (q.1 64 l)) (B + 2) := by
  have k3 : ti q 60 l = ((8 + 2 * j : Nat) : Int) := ti_k h60 (by omega)
  have hr' := rg_lt I hl h63 hr (by omega)
  have Ir := I.1 r hr'
  have hS : pS q r (msg q l) := ⟨l, hl, h63, rfl⟩
  have q3 := (Pin_q3 Ir (msg q l) hS (show 3 ≤ ti q 60 l by omega)).1
  have e3 : msg q l 3 = (q.1 64 l).toInt := rfl
  have g : (ti q 9 (4 * r) < 0 ∨ ti q 9 (4 * r) = ti q 8 r) ∧ (ti q 9 (4 * r + 1) < 0 ∨ ti q 9 (4 * r + 1) = ti q 8 r) ∧ (ti q 9 (4 * r + 2) < 0 ∨ ti q 9 (4 * r + 2) = ti q 8 r) ∧ (ti q 9 (4 * r + 3) < 0 ∨ ti q 9 (4 * r + 3) = ti q 8 r) := Pin_g Ir
  unfold gset1
  by_cases c : q.1 9 (4 * r + j) = q.1 64 l
  · rw [if_pos c]
    have sl : sal q (rup q 9 (4 * r + j) (Int32.ofInt (-1))) := ⟨fun k i _ _ _ _ => by simp (disch := omega) only [rup_f, rup_f], by simp (disch := omega) only [rup_f, rup_f]⟩
    refine PIv_1 I (by omega) (by simp (disch := omega) only [rup_f]) (fun s hs hne => ⟨⟨fun k _ _ _ => by simp (disch := omega) only [rup_f], fun j _ => by simp (disch := omega) only [rup_y], fun k i hk => by unfold pkf at hk; simp (disch := omega) only [rup_f]⟩, pS_sal sl s⟩) n12 hr' ?_
    have a : ∀ i, ti (rup q 9 (4 * r + j) (Int32.ofInt (-1))) 9 (4 * r + i) = if i = j then -1 else ti q 9 (4 * r + i) := fun i => by
      unfold ti
      rw [rup_i]
      by_cases e : i = j
      · rw [if_pos (by omega), if_pos e]
        decide
      · rw [if_neg (by omega), if_neg e]
    have a0 := a 0
    rw [Nat.add_zero] at a0
    have c' : ti q 9 (4 * r + j) = msg q l 3 := by rw [e3, ← c]; rfl
    have jj : j = 0 ∨ j = 1 ∨ j = 2 ∨ j = 3 := by omega
    unfold pv pvS
    rw [pS_sal sl, a0, a 1, a 2, a 3]
    rcases jj with e | e | e | e <;> subst e
    · exact pt_clr0 Ir (msg q l) hS k3 c'.symm (show ti q 9 (4 * r) = ti q 8 r by have c2 : ti q 9 (4 * r) = msg q l 3 := c'; omega)
    · exact pt_clr1 Ir (msg q l) hS k3 c'.symm (show ti q 9 (4 * r + 1) = ti q 8 r by omega)
    · exact pt_clr2 Ir (msg q l) hS k3 c'.symm (show ti q 9 (4 * r + 2) = ti q 8 r by omega)
    · exact pt_clr3 Ir
  · rw [if_neg c]
    exact ⟨fun s hs => pv_raise (I.1 s hs) (by omega), I.2⟩

theorem gow_f (q : xrho) (r k n : Nat) (hk : k < 4) : msg (gowedL q r k n) n 0 = ((7 + 2 * k : Nat) : Int) ∧ msg (gowedL q r k n) n 3 = ti q 9 (4 * r + k) ∧ msg (gowedL q r k n) n 1 = (if k = 0 ∨ k = 3 then ti q 11 r else ti q 10 r) ∧ msg (gowedL q r k n) n 4 = -9 ∧ msg (gowedL q r k n) n 5 = -9 ∧ (gowedL q r k n).1 63 n = nI r := by
  have a := gnew_at q n (if k = 0 then nI 7 else if k = 1 then nI 9 else if k = 2 then nI 11 else nI 13) (if k = 0 ∨ k = 3 then q.1 11 r else q.1 10 r) (nI 0) (nI r) (q.1 9 (4 * r + k))
  unfold gowedL
  have k4 : k = 0 ∨ k = 1 ∨ k = 2 ∨ k = 3 := by omega
  refine ⟨?_, ?_, ?_, ?_, ?_, a.2.2.2.1⟩
  · refine (congrArg Int32.toInt a.1).trans ?_
    rcases k4 with e | e | e | e <;> subst e <;> decide
  · exact congrArg Int32.toInt a.2.2.2.2.1
  · refine (congrArg Int32.toInt a.2.1).trans ?_
    by_cases c : k = 0 ∨ k = 3
    · rw [if_pos c, if_pos c]; rfl
    · rw [if_neg c, if_neg c]; rfl
  · exact (congrArg Int32.toInt a.2.2.2.2.2.2.1).trans (by decide)
  · exact (congrArg Int32.toInt a.2.2.2.2.2.2.2.1).trans (by decide)
theorem gow_nl (q : xrho) (r k n : Nat) : nlq q n (gowedL q r k n) := nlq_new _ _ _ _ _ _ _
theorem nu_nl {q q' : xrho} {n : Nat} (e : nlq q n q') (h : n < 1200) : nu q' 82 0 = n + 1 := by
  unfold nu
  rw [e.2.2.2.2.1]
  exact nI_clamp (by omega)
/-- the book hears that a move is done -/
theorem V_done {q : xrho} {B : Int} {l r : Nat} (I : PIv q B) (n12 : nu q 12 0 ≤ 40) (hn : nu q 82 0 + 1 < 1200) (hl : l < nu q 82 0) (h63 : q.1 63 l = nI r) (hr : r < 40) (h60 : q.1 60 l = nI 6) (h6 : isN q 6 r 5) (c : ¬ (q.1 2 r = 0 ∨ q.1 7 r < 0 ∨ q.1 8 r ≠ q.1 64 l)) : PIv (gowedL (gowedL (gdnq q r (q.1 64 l)) r 0 (nu q 82 0)) r 1 (nu q 82 0 + 1)) (B + 2) := by
  have k3 : ti q 60 l = 6 := ti_k h60 (by decide)
  have hr' := rg_lt I hl h63 hr (by omega)
  have Ir := I.1 r hr'
  have hS : pS q r (msg q l) := ⟨l, hl, h63, rfl⟩
  have e8 : q.1 8 r = q.1 64 l := Classical.byContradiction fun e => c (Or.inr (Or.inr e))
  have h7 : 0 ≤ ti q 7 r := by
    have : ¬ q.1 7 r < 0 := fun e => c (Or.inr (Or.inl e))
    rw [Int32.lt_iff_toInt_lt] at this
    have z : (0 : Int32).toInt = 0 := by decide
    unfold ti
    omega
  have qq : 1 ≤ B ∧ 0 ≤ ti q 5 r ∧ ti q 5 r ≤ B ∧ ti q 8 r ≤ B := Pin_q Ir
  have v0 : 0 ≤ ti q 8 r := Pin_v0 Ir
  have e3 : msg q l 3 = ti q 8 r := by
    show (q.1 64 l).toInt = (q.1 8 r).toInt
    rw [e8]
  have h6' : ti q 6 r = nu q 6 r := ti_k h6.1 (by have := h6.2; omega)
  have sl : sal q (gdnq q r (q.1 64 l)) := ⟨fun k i _ _ _ _ => by simp (disch := omega) only [gdnq, rup_f], by simp (disch := omega) only [gdnq, rup_f]⟩
  have n1 : nu (gdnq q r (q.1 64 l)) 82 0 = nu q 82 0 := nu_e sl.2
  have nl1 : nlq (gdnq q r (q.1 64 l)) (nu (gdnq q r (q.1 64 l)) 82 0) (gowedL (gdnq q r (q.1 64 l)) r 0 (nu q 82 0)) := by
    rw [n1]
    exact gow_nl _ _ _ _
  have ll : nu (gdnq q r (q.1 64 l)) 82 0 < 1200 := by omega
  obtain ⟨x0, x3, x1, x4, x5, x63⟩ := gow_f (gdnq q r (q.1 64 l)) r 0 (nu q 82 0) (by decide)
  have I1 : PIv (gowedL (gdnq q r (q.1 64 l)) r 0 (nu q 82 0)) (B + 2) := by
    refine PIv_1 I (by omega) ?_ (fun s hs hne => ⟨sam_tr (q' := gdnq q r (q.1 64 l)) ⟨fun k _ _ _ => by simp (disch := omega) only [gdnq, rup_y, rup_f], fun j _ => by simp (disch := omega) only [gdnq, rup_y, rup_f], fun k i hk => by unfold pkf at hk; simp (disch := omega) only [gdnq, rup_f]⟩ (sam_nl nl1 s), ?_⟩) n12 hr' ?_
    · rw [nl1.1 12 0 (by decide) (by decide)]
      simp (disch := omega) only [gdnq, rup_f]
    · rw [pS_ne nl1 ll, pS_sal sl]
      rw [n1, x63]
      exact fun e => hne ((nI_ee (by omega) (by omega)).mp e).symm
    · unfold pv
      rw [pS_eq nl1 ll (by rw [n1]; exact x63), pS_sal sl]
      refine pvS_sam (sam_nl nl1 r) ?_
      have d9 : ∀ i, ti (gdnq q r (q.1 64 l)) 9 (4 * r + i) = if i = 0 ∨ i = 1 then ti q 8 r else ti q 9 (4 * r + i) := fun i => by
        have : (gdnq q r (q.1 64 l)).1 9 (4 * r + i) = if i = 1 then q.1 64 l else if i = 0 then q.1 64 l else q.1 9 (4 * r + i) := by
          simp (disch := omega) only [gdnq, rup_f, rup_i]
          simp
        unfold ti
        rw [this]
        by_cases a : i = 1
        · rw [if_pos a, if_pos (Or.inr a), e8]
        · rw [if_neg a]
          by_cases b : i = 0
          · rw [if_pos b, if_pos (Or.inl b), e8]
          · rw [if_neg b, if_neg (by omega)]
      have t := pt_done Ir (nu q 6 r) (ti q 7 r).toNat h6'.symm (by omega) (msg q l) (msg (gowedL (gdnq q r (q.1 64 l)) r 0 (nu q 82 0)) (nu q 82 0)) hS k3 e3 x0 (by
        rw [x3, d9 0]
        rfl) (by
        rw [x1]
        show ((gdnq q r (q.1 64 l)).1 11 r).toInt = (q.1 7 r).toInt
        simp (disch := omega) only [gdnq, rup_f, rup_at]) (by omega) (by omega)
      have d90 : ti (gdnq q r (q.1 64 l)) 9 (4 * r) = ti q 8 r := d9 0
      have d91 : ti (gdnq q r (q.1 64 l)) 9 (4 * r + 1) = ti q 8 r := d9 1
      have d92 : ti (gdnq q r (q.1 64 l)) 9 (4 * r + 2) = ti q 9 (4 * r + 2) := d9 2
      have d93 : ti (gdnq q r (q.1 64 l)) 9 (4 * r + 3) = ti q 9 (4 * r + 3) := d9 3
      have d10 : ti (gdnq q r (q.1 64 l)) 10 r = ti q 6 r := by unfold ti; simp (disch := omega) only [gdnq, rup_f, rup_at]
      have d11 : ti (gdnq q r (q.1 64 l)) 11 r = ti q 7 r := by unfold ti; simp (disch := omega) only [gdnq, rup_f, rup_at]
      have d6 : ti (gdnq q r (q.1 64 l)) 6 r = ti q 7 r := by unfold ti; simp (disch := omega) only [gdnq, rup_f, rup_at]
      have d5 : ti (gdnq q r (q.1 64 l)) 5 r = ti q 8 r := by unfold ti; rw [e8]; simp (disch := omega) only [gdnq, rup_f, rup_at]
      have d7 : ti (gdnq q r (q.1 64 l)) 7 r = -1 := by
        have : (gdnq q r (q.1 64 l)).1 7 r = Int32.ofInt (-1) := by simp (disch := omega) only [gdnq, rup_f, rup_at]
        unfold ti
        rw [this]
        decide
      unfold pvS
      rw [n1, d90, d91, d92, d93, d10, d11, d6, d5, d7]
      exact t
  have n2 : nu (gowedL (gdnq q r (q.1 64 l)) r 0 (nu q 82 0)) 82 0 = nu q 82 0 + 1 := nu_nl (gow_nl _ _ _ _) (by omega)
  have Ir1 := I1.1 r (by rw [nu_e (nl1.1 12 0 (by decide) (by decide))]; rw [show nu (gdnq q r (q.1 64 l)) 12 0 = nu q 12 0 from nu_e (by simp (disch := omega) only [gdnq, rup_f])]; exact hr')
  have f7 : ti (gowedL (gdnq q r (q.1 64 l)) r 0 (nu q 82 0)) 7 r = -1 := by
    have : (gowedL (gdnq q r (q.1 64 l)) r 0 (nu q 82 0)).1 7 r = Int32.ofInt (-1) := by
      rw [nl1.1 7 r (by decide) (by decide)]
      simp (disch := omega) only [gdnq, rup_f, rup_at]
    unfold ti
    rw [this]
    decide
  have f9 : ti (gowedL (gdnq q r (q.1 64 l)) r 0 (nu q 82 0)) 9 (4 * r + 1) = ti (gowedL (gdnq q r (q.1 64 l)) r 0 (nu q 82 0)) 8 r ∧ ti (gowedL (gdnq q r (q.1 64 l)) r 0 (nu q 82 0)) 8 r = ti q 8 r := by
    unfold ti
    rw [nl1.1 9 _ (by decide) (by decide), nl1.1 8 _ (by decide) (by decide)]
    have a : (gdnq q r (q.1 64 l)).1 9 (4 * r + 1) = q.1 8 r := by
      rw [e8]
      simp (disch := omega) only [gdnq, rup_f, rup_at]
    have b : (gdnq q r (q.1 64 l)).1 8 r = q.1 8 r := by simp (disch := omega) only [gdnq, rup_f]
    rw [a, b]
    exact ⟨rfl, rfl⟩
  have nl2 : nlq (gowedL (gdnq q r (q.1 64 l)) r 0 (nu q 82 0)) (nu (gowedL (gdnq q r (q.1 64 l)) r 0 (nu q 82 0)) 82 0) (gowedL (gowedL (gdnq q r (q.1 64 l)) r 0 (nu q 82 0)) r 1 (nu q 82 0 + 1)) := by
    rw [n2]
    exact gow_nl _ _ _ _
  obtain ⟨y0, y3, y1, y4, y5, y63⟩ := gow_f (gowedL (gdnq q r (q.1 64 l)) r 0 (nu q 82 0)) r 1 (nu q 82 0 + 1) (by decide)
  have m12 : nu (gowedL (gdnq q r (q.1 64 l)) r 0 (nu q 82 0)) 12 0 = nu q 12 0 := by
    rw [nu_e (nl1.1 12 0 (by decide) (by decide))]
    exact nu_e (by simp (disch := omega) only [gdnq, rup_f])
  refine PIv_nl I1 nl2 (by omega) (by omega) (fun s hs e => ?_) (Or.inl ⟨r, by omega, by rw [n2]; exact y63⟩)
  rw [n2] at e ⊢
  have es : s = r := by
    rw [y63, nI_ee (by omega) (by omega)] at e
    omega
  subst es
  refine pok_g ⟨by omega, by omega, by omega, by omega⟩ ⟨by omega, by omega, by omega, by omega⟩ (fun e => absurd e (by omega)) (fun e => absurd e (by omega)) (fun _ _ => ⟨by omega, y1⟩) (fun e => absurd e (by omega)) (fun e => absurd e (by omega)) (fun e => absurd e (by omega))
