/-! THE REFERENCE'S knows, called -/
theorem le_0 {a : Nat} (h : a < 2 ^ 31) : (0 : Int32) ≤ nI a := Int32.not_lt.mp (nI_pos h)
/-- does the host serve the key by this range -/
abbrev kno (q : xrho) (h r : Nat) (key : Int32) : Prop := (q.1 15 (40 * h + r) = nI 1 ∨ q.1 15 (40 * h + r) = nI 2) ∧ ¬ key < q.1 16 (40 * h + r) ∧ ¬ q.1 17 (40 * h + r) ≤ key
def knR (q : xrho) (h : Nat) (key : Int32) : Nat → Nat → Option Nat → Option Nat
  | _, 0, o => o
  | r, m + 1, o => knR q h key (r + 1) m (if kno q h r key then some r else o)
theorem knR_lt {q : xrho} {h : Nat} {key : Int32} : ∀ m r (o : Option Nat) (n : Nat), r + m ≤ n → (∀ j, o = some j → j < n) → ∀ j, knR q h key r m o = some j → j < n
  | 0, _, _, _, _, ho, j, hj => ho j hj
  | m + 1, r, o, n, hr, ho, j, hj => by
    unfold knR at hj
    refine knR_lt m (r + 1) _ n (by omega) (fun j hj => ?_) j hj
    split at hj
    · cases hj; omega
    · exact ho j hj
def nO (o : Option Nat) : Int32 := match o with
  | some r => nI r
  | none => Int32.ofInt (-1)
theorem c_kn_1 {T0 MI B h n : Nat} {q : xrho} {M : xM} {key x2 x3 : Int32} {o7 : Option xV} (hh : h < 6) (hn : n ≤ 40) (hq : q.1 12 0 = nI n) : ∀ m r, r + m = n → ∀ o, ∃ o6', xZ T0 MI 177 6 [some (vr (some B)), some (vi (nI h)), some (vi x2), some (vi x3), some (vi key), some (vi (nO o)), some (vi (nI r)), o7] [] (rput B q M) = xZ T0 MI 177 87 [some (vr (some B)), some (vi (nI h)), some (vi x2), some (vi x3), some (vi key), some (vi (nO (knR q h key r m o))), o6', o7] [] (rput B q M) := by
  intro m
  induction m with
  | zero =>
    intro r hr o
    refine ⟨some (vi (nI r)), ?_⟩
    simp (decide := true) (disch := omega) only [rq_177_6, Option.bind_some, xasI, xasL, xasR, xin_t, cond_true, cond_false, nI_clamp, k_0, k_1, k_2, k_3, k_4, k_5, k_6, k_40, k_60, k_500, k_10000, pk_mul, nI_add, nI_e0, nI_ee, nI_leI, nI_ltI, xbool0, xbool1, xbn0, xbn1, xb_0, xb_1, reduceIte, one0, Option.isNone_none, ne_eq, not_true_eq_false, not_false_eq_true, if_true, if_false, ite_not, Bool.true_and, Bool.and_true, hq]
    rw [if_pos (by omega)]
    rfl
  | succ m ih =>
    intro r hr o
    have next : ∀ x : Int32, xZ T0 MI 177 81 [some (vr (some B)), some (vi (nI h)), some (vi x2), some (vi x3), some (vi key), some (vi x), some (vi (nI r)), o7] [] (rput B q M) = xZ T0 MI 177 6 [some (vr (some B)), some (vi (nI h)), some (vi x2), some (vi x3), some (vi key), some (vi x), some (vi (nI (r + 1))), o7] [] (rput B q M) := fun x => by rw [bq_177_81, nI_s]
    have s1 : xZ T0 MI 177 6 [some (vr (some B)), some (vi (nI h)), some (vi x2), some (vi x3), some (vi key), some (vi (nO o)), some (vi (nI r)), o7] [] (rput B q M) = if q.1 15 (40 * h + r) = nI 1 then xZ T0 MI 177 45 [some (vr (some B)), some (vi (nI h)), some (vi x2), some (vi x3), some (vi key), some (vi (nO o)), some (vi (nI r)), o7] [] (rput B q M) else xZ T0 MI 177 30 [some (vr (some B)), some (vi (nI h)), some (vi x2), some (vi x3), some (vi key), some (vi (nO o)), some (vi (nI r)), o7] [] (rput B q M) := by
      simp (decide := true) (disch := omega) only [rq_177_6, Option.bind_some, xasI, xasL, xasR, xin_t, cond_true, cond_false, nI_clamp, k_0, k_1, k_2, k_3, k_4, k_5, k_6, k_40, k_60, k_500, k_10000, pk_mul, nI_add, nI_e0, nI_ee, nI_leI, nI_ltI, xbool0, xbool1, xbn0, xbn1, xb_0, xb_1, reduceIte, one0, Option.isNone_none, ne_eq, not_true_eq_false, not_false_eq_true, if_true, if_false, ite_not, Bool.true_and, Bool.and_true, hq]
      rw [if_neg (by omega)]
      simp (decide := true) (disch := omega) only [rq_177_15, rq_177_25, Option.bind_some, xasI, xasL, xasR, xin_t, cond_true, cond_false, nI_clamp, k_0, k_1, k_2, k_3, k_4, k_5, k_6, k_40, k_60, k_500, k_10000, pk_mul, nI_add, nI_e0, nI_ee, nI_leI, nI_ltI, xbool0, xbool1, xbn0, xbn1, xb_0, xb_1, reduceIte, one0, Option.isNone_none, ne_eq, not_true_eq_false, not_false_eq_true, if_true, if_false, ite_not, Bool.true_and, Bool.and_true, c_spot]
    have s2 : xZ T0 MI 177 45 [some (vr (some B)), some (vi (nI h)), some (vi x2), some (vi x3), some (vi key), some (vi (nO o)), some (vi (nI r)), o7] [] (rput B q M) = xZ T0 MI 177 6 [some (vr (some B)), some (vi (nI h)), some (vi x2), some (vi x3), some (vi key), some (vi (nO (if ¬ key < q.1 16 (40 * h + r) ∧ ¬ q.1 17 (40 * h + r) ≤ key then some r else o))), some (vi (nI (r + 1))), o7] [] (rput B q M) := by
      simp (decide := true) (disch := omega) only [rq_177_45, rq_177_55, Option.bind_some, xasI, xasL, xasR, xin_t, cond_true, cond_false, nI_clamp, k_0, k_1, k_2, k_3, k_4, k_5, k_6, k_40, k_60, k_500, k_10000, pk_mul, nI_add, nI_e0, nI_ee, nI_leI, nI_ltI, xbool0, xbool1, xbn0, xbn1, xb_0, xb_1, reduceIte, one0, Option.isNone_none, ne_eq, not_true_eq_false, not_false_eq_true, if_true, if_false, ite_not, Bool.true_and, Bool.and_true, c_spot]
      by_cases a1 : key < q.1 16 (40 * h + r)
      · rw [if_pos a1, if_neg (fun h => h.1 a1), next]
      · rw [if_neg a1]
        simp (decide := true) (disch := omega) only [rq_177_61, rq_177_73, Option.bind_some, xasI, xasL, xasR, xin_t, cond_true, cond_false, nI_clamp, k_0, k_1, k_2, k_3, k_4, k_5, k_6, k_40, k_60, k_500, k_10000, pk_mul, nI_add, nI_e0, nI_ee, nI_leI, nI_ltI, xbool0, xbool1, xbn0, xbn1, xb_0, xb_1, reduceIte, one0, Option.isNone_none, ne_eq, not_true_eq_false, not_false_eq_true, if_true, if_false, ite_not, Bool.true_and, Bool.and_true, c_spot]
        by_cases a2 : q.1 17 (40 * h + r) ≤ key
        · rw [if_pos a2, if_neg (fun h => h.2 a2), next]
        · rw [if_neg a2, if_pos ⟨a1, a2⟩, bq_177_77, next]
          rfl
    have key1 : xZ T0 MI 177 6 [some (vr (some B)), some (vi (nI h)), some (vi x2), some (vi x3), some (vi key), some (vi (nO o)), some (vi (nI r)), o7] [] (rput B q M) = xZ T0 MI 177 6 [some (vr (some B)), some (vi (nI h)), some (vi x2), some (vi x3), some (vi key), some (vi (nO (if kno q h r key then some r else o))), some (vi (nI (r + 1))), o7] [] (rput B q M) := by
      rw [s1]
      by_cases a1 : q.1 15 (40 * h + r) = nI 1
      · rw [if_pos a1, s2]
        by_cases a2 : ¬ key < q.1 16 (40 * h + r) ∧ ¬ q.1 17 (40 * h + r) ≤ key
        · rw [if_pos a2, if_pos ⟨Or.inl a1, a2⟩]
        · rw [if_neg a2, if_neg (fun h => a2 h.2)]
      · rw [if_neg a1]
        simp (decide := true) (disch := omega) only [rq_177_30, rq_177_40, Option.bind_some, xasI, xasL, xasR, xin_t, cond_true, cond_false, nI_clamp, k_0, k_1, k_2, k_3, k_4, k_5, k_6, k_40, k_60, k_500, k_10000, pk_mul, nI_add, nI_e0, nI_ee, nI_leI, nI_ltI, xbool0, xbool1, xbn0, xbn1, xb_0, xb_1, reduceIte, one0, Option.isNone_none, ne_eq, not_true_eq_false, not_false_eq_true, if_true, if_false, ite_not, Bool.true_and, Bool.and_true, c_spot]
        by_cases a3 : q.1 15 (40 * h + r) = nI 2
        · rw [if_pos a3, s2]
          by_cases a2 : ¬ key < q.1 16 (40 * h + r) ∧ ¬ q.1 17 (40 * h + r) ≤ key
          · rw [if_pos a2, if_pos ⟨Or.inr a3, a2⟩]
          · rw [if_neg a2, if_neg (fun h => a2 h.2)]
        · rw [if_neg a3, next, if_neg (fun h => h.1.elim a1 a3)]
    obtain ⟨o6', e⟩ := ih (r + 1) (by omega) (if kno q h r key then some r else o)
    exact ⟨o6', key1.trans e⟩
/-- the last that the host gave and that has the key -/
abbrev gvn (q : xrho) (h g : Nat) (key : Int32) : Prop := q.1 38 g = nI h ∧ ¬ key < q.1 40 g ∧ key < q.1 41 g
def knG (q : xrho) (h : Nat) (key : Int32) : Nat → Option Nat
  | 0 => none
  | g + 1 => if gvn q h g key then some g else knG q h key g
theorem knG_lt {q : xrho} {h : Nat} {key : Int32} : ∀ g j, knG q h key g = some j → j < g
  | 0, _, h => by cases h
  | g + 1, j, hj => by
    unfold knG at hj
    split at hj
    · cases hj; omega
    · have := knG_lt g j hj; omega
theorem c_kn_2 {T0 MI B h : Nat} {q : xrho} {M : xM} {key x2 x3 x5 : Int32} {o7 : Option xV} : ∀ g, g ≤ 1200 → xZ T0 MI 177 95 [some (vr (some B)), some (vi (nI h)), some (vi x2), some (vi x3), some (vi key), some (vi x5), some (vi (nI g - nI 1)), o7] [] (rput B q M) = xZ T0 MI 177 141 [some (vr (some B)), some (vi (nI h)), some (vi x2), some (vi x3), some (vi key), some (vi x5), some (vi (nO (knG q h key g))), o7] [] (rput B q M) := by
  intro g
  induction g with
  | zero =>
    intro _
    rw [bq_177_95, if_pos (by decide)]
    rfl
  | succ g ih =>
    intro hg
    have next : xZ T0 MI 177 135 [some (vr (some B)), some (vi (nI h)), some (vi x2), some (vi x3), some (vi key), some (vi x5), some (vi (nI g)), o7] [] (rput B q M) = xZ T0 MI 177 141 [some (vr (some B)), some (vi (nI h)), some (vi x2), some (vi x3), some (vi key), some (vi x5), some (vi (nO (knG q h key g))), o7] [] (rput B q M) := by
      rw [bq_177_135, dec1, ih (by omega)]
    rw [nI_s1, bq_177_95, if_neg (nI_pos (by omega))]
    unfold knG
    simp (decide := true) (disch := omega) only [rq_177_100, Option.bind_some, xasI, xasL, xasR, xin_t, cond_true, cond_false, nI_clamp, k_0, k_1, k_2, k_3, k_4, k_5, k_6, k_40, k_60, k_500, k_10000, pk_mul, nI_add, nI_e0, nI_ee, nI_leI, nI_ltI, xbool0, xbool1, xbn0, xbn1, xb_0, xb_1, reduceIte, one0, Option.isNone_none, ne_eq, not_true_eq_false, not_false_eq_true, if_true, if_false, ite_not, Bool.true_and, Bool.and_true]
    by_cases a1 : q.1 38 g = nI h
    · rw [if_pos a1]
      simp (decide := true) (disch := omega) only [rq_177_111, Option.bind_some, xasI, xasL, xasR, xin_t, cond_true, cond_false, nI_clamp, k_0, k_1, k_2, k_3, k_4, k_5, k_6, k_40, k_60, k_500, k_10000, pk_mul, nI_add, nI_e0, nI_ee, nI_leI, nI_ltI, xbool0, xbool1, xbn0, xbn1, xb_0, xb_1, reduceIte, one0, Option.isNone_none, ne_eq, not_true_eq_false, not_false_eq_true, if_true, if_false, ite_not, Bool.true_and, Bool.and_true]
      by_cases a2 : key < q.1 40 g
      · rw [if_pos a2, if_neg (fun h => h.2.1 a2), next]
      · rw [if_neg a2]
        simp (decide := true) (disch := omega) only [rq_177_123, Option.bind_some, xasI, xasL, xasR, xin_t, cond_true, cond_false, nI_clamp, k_0, k_1, k_2, k_3, k_4, k_5, k_6, k_40, k_60, k_500, k_10000, pk_mul, nI_add, nI_e0, nI_ee, nI_leI, nI_ltI, xbool0, xbool1, xbn0, xbn1, xb_0, xb_1, reduceIte, one0, Option.isNone_none, ne_eq, not_true_eq_false, not_false_eq_true, if_true, if_false, ite_not, Bool.true_and, Bool.and_true]
        by_cases a3 : key < q.1 41 g
        · rw [if_pos a3, if_pos ⟨a1, a2, a3⟩]
          rfl
        · rw [if_neg a3, if_neg (fun h => a3 h.2.2), next]
    · rw [if_neg a1, if_neg (fun h => a1 h.1), next]
/-- the OLD that goes back -/
def gknow (q : xrho) (l h : Nat) (caller count : Int32) (o1 o2 : Option Nat) : xrho := match o1 with
  | some r => rup (rup (rup (rup (gnew q l (nI 2) caller (nI h) (nI r) (q.1 18 (40 * h + r))) 66 l count) 70 l (q.1 16 (40 * h + r))) 71 l (q.1 17 (40 * h + r))) 72 l (nI h)
  | none => match o2 with
    | some g => rup (rup (rup (rup (gnew q l (nI 2) caller (nI h) (q.1 39 g) (q.1 42 g)) 66 l count) 70 l (q.1 40 g)) 71 l (q.1 41 g)) 72 l (q.1 43 g)
    | none => rup (gnew q l (nI 2) caller (nI h) (Int32.ofInt (-9)) (Int32.ofInt (-9))) 66 l count
theorem c_knows {T0 MI B h n l g : Nat} {q : xrho} {M : xM} {key caller count : Int32} {o5 o6 o7 : Option xV} (hh : h < 6) (hn : n ≤ 40) (h12 : q.1 12 0 = nI n) (hl : l < 1200) (h82 : q.1 82 0 = nI l) (hg : g ≤ 1200) (h44 : q.1 44 0 = nI g) : xZ T0 MI 177 0 [some (vr (some B)), some (vi (nI h)), some (vi caller), some (vi count), some (vi key), o5, o6, o7] [] (rput B q M) = some (none, rput B (gknow q l h caller count (knR q h key 0 n none) (knG q h key g)) M) := by
  obtain ⟨o6', e1⟩ := c_kn_1 (T0 := T0) (MI := MI) (B := B) (M := M) (q := q) (key := key) (x2 := caller) (x3 := count) (o7 := o7) hh hn h12 n 0 (by omega) none
  rw [bq_177_0, k_0, show Int32.ofInt (-1) = nO none from rfl, e1, rq_177_87, h44, k_1, c_kn_2 g hg]
  cases h1 : knR q h key 0 n none with
  | some r =>
    have hr : r < 40 := by
      have := knR_lt n 0 none n (by omega) (fun j hj => by cases hj) r h1
      omega
    show xZ T0 MI 177 141 [some (vr (some B)), some (vi (nI h)), some (vi caller), some (vi count), some (vi key), some (vi (nI r)), some (vi (nO (knG q h key g))), o7] [] (rput B q M) = _
    have n0 : ¬ nI r < 0 := nI_pos (by omega)
    have l0 : (0 : Int32) ≤ nI r := le_0 (by omega)
    rw [bq_177_141, if_neg n0, bq_177_150, bq_177_172, if_neg n0]
    simp (decide := true) (disch := omega) only [rq_177_177, rq_177_187, Option.bind_some, xasI, xasL, xasR, xin_t, cond_true, cond_false, nI_clamp, k_0, k_1, k_2, k_3, k_4, k_5, k_6, k_40, k_60, k_500, k_10000, pk_mul, nI_add, nI_e0, nI_ee, nI_leI, nI_ltI, xbool0, xbool1, xbn0, xbn1, xb_0, xb_1, reduceIte, one0, Option.isNone_none, ne_eq, not_true_eq_false, not_false_eq_true, if_true, if_false, ite_not, Bool.true_and, Bool.and_true, c_spot]
    rw [rq_177_208, c_newLetter hl h82]
    simp (decide := true) (disch := omega) only [rq_177_211, Option.bind_some, xasI, xasL, xasR, xin_t, cond_true, cond_false, nI_clamp, k_0, k_1, k_2, k_3, k_4, k_5, k_6, k_40, k_60, k_500, k_10000, pk_mul, nI_add, nI_e0, nI_ee, nI_leI, nI_ltI, xbool0, xbool1, xbn0, xbn1, xb_0, xb_1, reduceIte, one0, Option.isNone_none, ne_eq, not_true_eq_false, not_false_eq_true, if_true, if_false, ite_not, Bool.true_and, Bool.and_true]
    rw [if_pos l0, rq_177_232, if_neg n0]
    simp (decide := true) (disch := omega) only [rq_177_243, rq_177_253, Option.bind_some, xasI, xasL, xasR, xin_t, cond_true, cond_false, nI_clamp, k_0, k_1, k_2, k_3, k_4, k_5, k_6, k_40, k_60, k_500, k_10000, pk_mul, nI_add, nI_e0, nI_ee, nI_leI, nI_ltI, xbool0, xbool1, xbn0, xbn1, xb_0, xb_1, reduceIte, one0, Option.isNone_none, ne_eq, not_true_eq_false, not_false_eq_true, if_true, if_false, ite_not, Bool.true_and, Bool.and_true, c_spot]
    rw [rq_177_264]
    simp (decide := true) (disch := omega) only [Option.bind_some, xasI, xasL, xasR, xin_t, cond_true, cond_false, nI_clamp, k_0, k_1, k_2, k_3, k_4, k_5, k_6, k_40, k_60, k_500, k_10000, pk_mul, nI_add, nI_e0, nI_ee, nI_leI, nI_ltI, xbool0, xbool1, xbn0, xbn1, xb_0, xb_1, reduceIte, one0, Option.isNone_none, ne_eq, not_true_eq_false, not_false_eq_true, if_true, if_false, ite_not, Bool.true_and, Bool.and_true]
    rw [if_neg n0]
    simp (decide := true) (disch := omega) only [rq_177_276, rq_177_286, Option.bind_some, xasI, xasL, xasR, xin_t, cond_true, cond_false, nI_clamp, k_0, k_1, k_2, k_3, k_4, k_5, k_6, k_40, k_60, k_500, k_10000, pk_mul, nI_add, nI_e0, nI_ee, nI_leI, nI_ltI, xbool0, xbool1, xbn0, xbn1, xb_0, xb_1, reduceIte, one0, Option.isNone_none, ne_eq, not_true_eq_false, not_false_eq_true, if_true, if_false, ite_not, Bool.true_and, Bool.and_true, c_spot]
    rw [rq_177_297]
    simp (decide := true) (disch := omega) only [Option.bind_some, xasI, xasL, xasR, xin_t, cond_true, cond_false, nI_clamp, k_0, k_1, k_2, k_3, k_4, k_5, k_6, k_40, k_60, k_500, k_10000, pk_mul, nI_add, nI_e0, nI_ee, nI_leI, nI_ltI, xbool0, xbool1, xbn0, xbn1, xb_0, xb_1, reduceIte, one0, Option.isNone_none, ne_eq, not_true_eq_false, not_false_eq_true, if_true, if_false, ite_not, Bool.true_and, Bool.and_true]
    rw [if_neg n0, bq_177_309]
    simp (decide := true) (disch := omega) only [rq_177_320, Option.bind_some, xasI, xasL, xasR, xin_t, cond_true, cond_false, nI_clamp, k_0, k_1, k_2, k_3, k_4, k_5, k_6, k_40, k_60, k_500, k_10000, pk_mul, nI_add, nI_e0, nI_ee, nI_leI, nI_ltI, xbool0, xbool1, xbn0, xbn1, xb_0, xb_1, reduceIte, one0, Option.isNone_none, ne_eq, not_true_eq_false, not_false_eq_true, if_true, if_false, ite_not, Bool.true_and, Bool.and_true]
    rfl
  | none =>
    cases h2 : knG q h key g with
    | some j =>
      have hj := knG_lt g j h2
      show xZ T0 MI 177 141 [some (vr (some B)), some (vi (nI h)), some (vi caller), some (vi count), some (vi key), some (vi (Int32.ofInt (-1))), some (vi (nI j)), o7] [] (rput B q M) = _
      have n0 : ¬ nI j < 0 := nI_pos (by omega)
      have l0 : (0 : Int32) ≤ nI j := le_0 (by omega)
      have m0 : Int32.ofInt (-1) < 0 := by decide
      have m1 : ¬ (0 : Int32) ≤ Int32.ofInt (-1) := by decide
      rw [bq_177_141, if_pos m0, bq_177_155, if_neg n0]
      simp (decide := true) (disch := omega) only [rq_177_160, Option.bind_some, xasI, xasL, xasR, xin_t, cond_true, cond_false, nI_clamp, k_0, k_1, k_2, k_3, k_4, k_5, k_6, k_40, k_60, k_500, k_10000, pk_mul, nI_add, nI_e0, nI_ee, nI_leI, nI_ltI, xbool0, xbool1, xbn0, xbn1, xb_0, xb_1, reduceIte, one0, Option.isNone_none, ne_eq, not_true_eq_false, not_false_eq_true, if_true, if_false, ite_not, Bool.true_and, Bool.and_true]
      rw [bq_177_172, if_pos m0, bq_177_191, if_neg n0]
      simp (decide := true) (disch := omega) only [rq_177_196, Option.bind_some, xasI, xasL, xasR, xin_t, cond_true, cond_false, nI_clamp, k_0, k_1, k_2, k_3, k_4, k_5, k_6, k_40, k_60, k_500, k_10000, pk_mul, nI_add, nI_e0, nI_ee, nI_leI, nI_ltI, xbool0, xbool1, xbn0, xbn1, xb_0, xb_1, reduceIte, one0, Option.isNone_none, ne_eq, not_true_eq_false, not_false_eq_true, if_true, if_false, ite_not, Bool.true_and, Bool.and_true]
      rw [rq_177_208, c_newLetter hl h82]
      simp (decide := true) (disch := omega) only [rq_177_211, Option.bind_some, xasI, xasL, xasR, xin_t, cond_true, cond_false, nI_clamp, k_0, k_1, k_2, k_3, k_4, k_5, k_6, k_40, k_60, k_500, k_10000, pk_mul, nI_add, nI_e0, nI_ee, nI_leI, nI_ltI, xbool0, xbool1, xbn0, xbn1, xb_0, xb_1, reduceIte, one0, Option.isNone_none, ne_eq, not_true_eq_false, not_false_eq_true, if_true, if_false, ite_not, Bool.true_and, Bool.and_true]
      rw [bq_177_226, if_pos l0, rq_177_232, if_pos m0]
      simp (decide := true) (disch := omega) only [rq_177_257, Option.bind_some, xasI, xasL, xasR, xin_t, cond_true, cond_false, nI_clamp, k_0, k_1, k_2, k_3, k_4, k_5, k_6, k_40, k_60, k_500, k_10000, pk_mul, nI_add, nI_e0, nI_ee, nI_leI, nI_ltI, xbool0, xbool1, xbn0, xbn1, xb_0, xb_1, reduceIte, one0, Option.isNone_none, ne_eq, not_true_eq_false, not_false_eq_true, if_true, if_false, ite_not, Bool.true_and, Bool.and_true]
      rw [rq_177_264]
      simp (decide := true) (disch := omega) only [Option.bind_some, xasI, xasL, xasR, xin_t, cond_true, cond_false, nI_clamp, k_0, k_1, k_2, k_3, k_4, k_5, k_6, k_40, k_60, k_500, k_10000, pk_mul, nI_add, nI_e0, nI_ee, nI_leI, nI_ltI, xbool0, xbool1, xbn0, xbn1, xb_0, xb_1, reduceIte, one0, Option.isNone_none, ne_eq, not_true_eq_false, not_false_eq_true, if_true, if_false, ite_not, Bool.true_and, Bool.and_true]
      simp (decide := true) (disch := omega) only [rq_177_290, Option.bind_some, xasI, xasL, xasR, xin_t, cond_true, cond_false, nI_clamp, k_0, k_1, k_2, k_3, k_4, k_5, k_6, k_40, k_60, k_500, k_10000, pk_mul, nI_add, nI_e0, nI_ee, nI_leI, nI_ltI, xbool0, xbool1, xbn0, xbn1, xb_0, xb_1, reduceIte, one0, Option.isNone_none, ne_eq, not_true_eq_false, not_false_eq_true, if_true, if_false, ite_not, Bool.true_and, Bool.and_true]
      rw [rq_177_297]
      simp (decide := true) (disch := omega) only [Option.bind_some, xasI, xasL, xasR, xin_t, cond_true, cond_false, nI_clamp, k_0, k_1, k_2, k_3, k_4, k_5, k_6, k_40, k_60, k_500, k_10000, pk_mul, nI_add, nI_e0, nI_ee, nI_leI, nI_ltI, xbool0, xbool1, xbn0, xbn1, xb_0, xb_1, reduceIte, one0, Option.isNone_none, ne_eq, not_true_eq_false, not_false_eq_true, if_true, if_false, ite_not, Bool.true_and, Bool.and_true]
      simp (decide := true) (disch := omega) only [rq_177_313, rq_177_320, Option.bind_some, xasI, xasL, xasR, xin_t, cond_true, cond_false, nI_clamp, k_0, k_1, k_2, k_3, k_4, k_5, k_6, k_40, k_60, k_500, k_10000, pk_mul, nI_add, nI_e0, nI_ee, nI_leI, nI_ltI, xbool0, xbool1, xbn0, xbn1, xb_0, xb_1, reduceIte, one0, Option.isNone_none, ne_eq, not_true_eq_false, not_false_eq_true, if_true, if_false, ite_not, Bool.true_and, Bool.and_true]
      rfl
    | none =>
      show xZ T0 MI 177 141 [some (vr (some B)), some (vi (nI h)), some (vi caller), some (vi count), some (vi key), some (vi (Int32.ofInt (-1))), some (vi (Int32.ofInt (-1))), o7] [] (rput B q M) = _
      have m0 : Int32.ofInt (-1) < 0 := by decide
      have m1 : ¬ (0 : Int32) ≤ Int32.ofInt (-1) := by decide
      rw [bq_177_141, if_pos m0, bq_177_155, if_pos m0, bq_177_170, bq_177_172, if_pos m0, bq_177_191, if_pos m0, bq_177_206, rq_177_208, c_newLetter hl h82]
      simp (decide := true) (disch := omega) only [rq_177_211, Option.bind_some, xasI, xasL, xasR, xin_t, cond_true, cond_false, nI_clamp, k_0, k_1, k_2, k_3, k_4, k_5, k_6, k_40, k_60, k_500, k_10000, pk_mul, nI_add, nI_e0, nI_ee, nI_leI, nI_ltI, xbool0, xbool1, xbn0, xbn1, xb_0, xb_1, reduceIte, one0, Option.isNone_none, ne_eq, not_true_eq_false, not_false_eq_true, if_true, if_false, ite_not, Bool.true_and, Bool.and_true]
      rw [bq_177_226, if_neg m1, bq_177_231]
      rfl
/-- called: at a place that serves -/
theorem PK_lkp {q : xrho} {c : Nat} {k : KW} (h : PK q c k) (count : Int32) : match rfnd (fun j => q.1 35 (4 * c + j)) count 0 k.length with
    | some j => j < 4 ∧ lkp Prod.fst count k = some (count, q.2 37 (4 * c + j), q.1 36 (4 * c + j))
    | none => lkp Prod.fst count k = none := by
  have hb := h.2.1
  have hw : win (fun x => (q.1 35 x, q.2 37 x, q.1 36 x)) (4 * c) k.length = k.reverse := by
    have := h.2.2.1
    unfold keptV at this
    rw [PK_nu h] at this
    rw [← this, List.reverse_reverse, List.length_reverse, win_len]
  have e := rfnd_lkp (k := (Prod.fst : Int32 × Int64 × Int32 → Int32)) (f := fun x => (q.1 35 x, q.2 37 x, q.1 36 x)) (b := 4 * c) (key := count) (m := k.length) (i := 0)
  rw [Nat.add_zero, hw] at e
  cases hf : rfnd (fun j => q.1 35 (4 * c + j)) count 0 k.length with
  | none =>
    have e2 : lkp Prod.fst count k.reverse = none := by
      rw [← e]
      show Option.map _ (rfnd (fun j => q.1 35 (4 * c + j)) count 0 k.length) = _
      rw [hf]
      rfl
    exact lkp_none.mpr (fun y hy => lkp_none.mp e2 y (List.mem_reverse.mpr hy))
  | some j =>
    obtain ⟨-, h2, h3⟩ := rfnd_lt hf
    refine ⟨by omega, ?_⟩
    have e2 : lkp Prod.fst count k.reverse = some (count, q.2 37 (4 * c + j), q.1 36 (4 * c + j)) := by
      rw [← e]
      show Option.map _ (rfnd (fun j => q.1 35 (4 * c + j)) count 0 k.length) = _
      rw [hf]
      show some (q.1 35 (4 * c + j), q.2 37 (4 * c + j), q.1 36 (4 * c + j)) = _
      rw [h3]
    have hm := (lkp_some e2).1
    cases hk : lkp Prod.fst count k with
    | none => exact absurd rfl (lkp_none.mp hk _ (List.mem_reverse.mp hm))
    | some x =>
      obtain ⟨x1, x2⟩ := lkp_some hk
      have hm2 := List.mem_reverse.mp hm
      by_cases ex : x = (count, q.2 37 (4 * c + j), q.1 36 (4 * c + j))
      · rw [ex]
      · exfalso
        have hs := h.2.2.2
        have pw : ∀ a ∈ k, ∀ b ∈ k, a ≠ b → a.1 ≠ b.1 := by
          intro a ha b hb hab
          obtain ⟨i, hi, rfl⟩ := List.getElem_of_mem ha
          obtain ⟨i', hi', rfl⟩ := List.getElem_of_mem hb
          have hii : i ≠ i' := fun e => hab (by subst e; rfl)
          intro e
          rcases Nat.lt_or_gt_of_ne hii with hlt | hlt
          · have := List.pairwise_iff_getElem.mp hs i i' hi hi' hlt
            rw [e] at this
            exact i_irr this
          · have := List.pairwise_iff_getElem.mp hs i' i hi' hi hlt
            rw [e] at this
            exact i_irr this
        exact pw x x1 _ hm2 ex x2
