/-! Kept -/
def pKq (a s c v g : Nat) (q : xrho) (M : xM) : xM := xset (xset (xset (xset (xset M a (.inr (4, [vr (some s), vr (some c), vr (some v), vr (some g)]))) s (.inl (0, 6, .inl (q.1 34)))) c (.inl (0, 24, .inl (q.1 35)))) v (.inl (1, 24, .inr (.inl (q.2 37))))) g (.inl (0, 24, .inl (q.1 36)))
abbrev nd5 (a s c v g : Nat) : Prop := (a ≠ s ∧ a ≠ c ∧ a ≠ v ∧ a ≠ g) ∧ (s ≠ c ∧ s ≠ v ∧ s ≠ g) ∧ (c ≠ v ∧ c ≠ g) ∧ v ≠ g
theorem pK_o {a s c v g : Nat} {q : xrho} {M : xM} (D : nd5 a s c v g) : (pKq a s c v g q M).2.2 a = .inr (4, [vr (some s), vr (some c), vr (some v), vr (some g)]) := by
  unfold pKq
  rw [xset_ne _ _ D.1.2.2.2, xset_ne _ _ D.1.2.2.1, xset_ne _ _ D.1.2.1, xset_ne _ _ D.1.1, xset_at]
theorem pK_s {a s c v g : Nat} {q : xrho} {M : xM} (D : nd5 a s c v g) : (pKq a s c v g q M).2.2 s = .inl (0, 6, .inl (q.1 34)) := by
  unfold pKq
  rw [xset_ne _ _ D.2.1.2.2, xset_ne _ _ D.2.1.2.1, xset_ne _ _ D.2.1.1, xset_at]
theorem pK_cc {a s c v g : Nat} {q : xrho} {M : xM} (D : nd5 a s c v g) : (pKq a s c v g q M).2.2 c = .inl (0, 24, .inl (q.1 35)) := by
  unfold pKq
  rw [xset_ne _ _ D.2.2.1.2, xset_ne _ _ D.2.2.1.1, xset_at]
theorem pK_v {a s c v g : Nat} {q : xrho} {M : xM} (D : nd5 a s c v g) : (pKq a s c v g q M).2.2 v = .inl (1, 24, .inr (.inl (q.2 37))) := by
  unfold pKq
  rw [xset_ne _ _ D.2.2.2, xset_at]
theorem pK_g {a s c v g : Nat} {q : xrho} {M : xM} : (pKq a s c v g q M).2.2 g = .inl (0, 24, .inl (q.1 36)) := by
  unfold pKq
  rw [xset_at]
theorem pK_out {a s c v g b : Nat} {q : xrho} {M : xM} (h1 : b ≠ a) (h2 : b ≠ s) (h3 : b ≠ c) (h4 : b ≠ v) (h5 : b ≠ g) : (pKq a s c v g q M).2.2 b = M.2.2 b := by
  unfold pKq
  rw [xset_ne _ _ h5, xset_ne _ _ h4, xset_ne _ _ h3, xset_ne _ _ h2, xset_ne _ _ h1]
theorem pK_0 {a s c v g : Nat} {q : xrho} {M : xM} (D : nd5 a s c v g) : xgetR (pKq a s c v g q M) a 4 0 = some (some s) := gR (pK_o D) 0 rfl
theorem pK_1 {a s c v g : Nat} {q : xrho} {M : xM} (D : nd5 a s c v g) : xgetR (pKq a s c v g q M) a 4 1 = some (some c) := gR (pK_o D) 1 rfl
theorem pK_2 {a s c v g : Nat} {q : xrho} {M : xM} (D : nd5 a s c v g) : xgetR (pKq a s c v g q M) a 4 2 = some (some v) := gR (pK_o D) 2 rfl
theorem pK_3 {a s c v g : Nat} {q : xrho} {M : xM} (D : nd5 a s c v g) : xgetR (pKq a s c v g q M) a 4 3 = some (some g) := gR (pK_o D) 3 rfl
theorem pK_c {a s c v g : Nat} {q : xrho} {M : xM} (D : nd5 a s c v g) : xcls (pKq a s c v g q M) a 4 = true := gC (pK_o D)
theorem pK_aS {a s c v g : Nat} {q : xrho} {M : xM} (D : nd5 a s c v g) (i : Int32) : xaI (pKq a s c v g q M) s i = bif xin i 6 then some (q.1 34 i.toNatClampNeg) else none := aI (pK_s D) i
theorem pK_aC {a s c v g : Nat} {q : xrho} {M : xM} (D : nd5 a s c v g) (i : Int32) : xaI (pKq a s c v g q M) c i = bif xin i 24 then some (q.1 35 i.toNatClampNeg) else none := aI (pK_cc D) i
theorem pK_aV {a s c v g : Nat} {q : xrho} {M : xM} (D : nd5 a s c v g) (i : Int32) : xaL (pKq a s c v g q M) v i = bif xin i 24 then some (q.2 37 i.toNatClampNeg) else none := aL (pK_v D) i
theorem pK_aG {a s c v g : Nat} {q : xrho} {M : xM} (i : Int32) : xaI (pKq a s c v g q M) g i = bif xin i 24 then some (q.1 36 i.toNatClampNeg) else none := aI pK_g i
theorem pK_wS {a s c v g : Nat} {q : xrho} {M : xM} (D : nd5 a s c v g) (i x : Int32) : xsI (pKq a s c v g q M) s i x = bif xin i 6 then some (pKq a s c v g (rup q 34 i.toNatClampNeg x) M) else none := by
  rw [sI (pK_s D)]
  unfold pKq
  rw [xset_comm _ _ _ (Ne.symm D.2.1.2.2), xset_comm _ _ _ (Ne.symm D.2.1.2.1), xset_comm _ _ _ (Ne.symm D.2.1.1), xset_xset]
  rfl
theorem pK_wC {a s c v g : Nat} {q : xrho} {M : xM} (D : nd5 a s c v g) (i x : Int32) : xsI (pKq a s c v g q M) c i x = bif xin i 24 then some (pKq a s c v g (rup q 35 i.toNatClampNeg x) M) else none := by
  rw [sI (pK_cc D)]
  unfold pKq
  rw [xset_comm _ _ _ (Ne.symm D.2.2.1.2), xset_comm _ _ _ (Ne.symm D.2.2.1.1), xset_xset]
  rfl
theorem pK_wV {a s c v g : Nat} {q : xrho} {M : xM} (D : nd5 a s c v g) (i : Int32) (x : Int64) : xsL (pKq a s c v g q M) v i x = bif xin i 24 then some (pKq a s c v g (rupL q 37 i.toNatClampNeg x) M) else none := by
  rw [sL (pK_v D)]
  unfold pKq
  rw [xset_comm _ _ _ (Ne.symm D.2.2.2), xset_xset]
  rfl
theorem pK_wG {a s c v g : Nat} {q : xrho} {M : xM} (i x : Int32) : xsI (pKq a s c v g q M) g i x = bif xin i 24 then some (pKq a s c v g (rup q 36 i.toNatClampNeg x) M) else none := by
  rw [sI pK_g]
  unfold pKq
  rw [xset_xset]
  rfl
/-- a caller's answers, the least count first -/
def CK (q : xrho) (c : Nat) (k : KW) : Prop := q.1 34 c = nI k.length ∧ k.length ≤ 4 ∧ win (fun x => (q.1 35 x, q.2 37 x, q.1 36 x)) (4 * c) k.length = k ∧ srt Prod.fst k
theorem CK_c {q q' : xrho} {c : Nat} {k : KW} (h : CK q c k) (h1 : q'.1 34 c = q.1 34 c) (h2 : ∀ j, j < 4 → q'.1 35 (4 * c + j) = q.1 35 (4 * c + j) ∧ q'.2 37 (4 * c + j) = q.2 37 (4 * c + j) ∧ q'.1 36 (4 * c + j) = q.1 36 (4 * c + j)) : CK q' c k := by
  refine ⟨h1.trans h.1, h.2.1, ?_, h.2.2.2⟩
  refine Eq.trans ?_ h.2.2.1
  apply win_congr
  intro j hj
  have := h2 j (by have := h.2.1; omega)
  rw [this.1, this.2.1, this.2.2]
theorem CK_get {q : xrho} {c j : Nat} {k : KW} (h : CK q c k) (hj : j < k.length) : k[j] = (q.1 35 (4 * c + j), q.2 37 (4 * c + j), q.1 36 (4 * c + j)) := by
  have e1 : k[j]? = some (q.1 35 (4 * c + j), q.2 37 (4 * c + j), q.1 36 (4 * c + j)) := by
    rw [← h.2.2.1]
    exact win_get hj
  rw [List.getElem?_eq_getElem hj] at e1
  exact Option.some.inj e1
theorem CK_lkp {q : xrho} {c : Nat} {k : KW} (h : CK q c k) (count : Int32) : match rfnd (fun j => q.1 35 (4 * c + j)) count 0 k.length with
    | some j => j < 4 ∧ lkp Prod.fst count k = some (count, q.2 37 (4 * c + j), q.1 36 (4 * c + j))
    | none => lkp Prod.fst count k = none := by
  have hb := h.2.1
  have e := rfnd_lkp (k := (Prod.fst : Int32 × Int64 × Int32 → Int32)) (f := fun x => (q.1 35 x, q.2 37 x, q.1 36 x)) (b := 4 * c) (key := count) (m := k.length) (i := 0)
  rw [Nat.add_zero, h.2.2.1] at e
  cases hf : rfnd (fun j => q.1 35 (4 * c + j)) count 0 k.length with
  | none =>
    dsimp only
    rw [← e]
    show Option.map _ (rfnd (fun j => q.1 35 (4 * c + j)) count 0 k.length) = _
    rw [hf]
    rfl
  | some j =>
    obtain ⟨-, h2, h3⟩ := rfnd_lt hf
    refine ⟨by omega, ?_⟩
    rw [← e]
    show Option.map _ (rfnd (fun j => q.1 35 (4 * c + j)) count 0 k.length) = _
    rw [hf]
    show some (q.1 35 (4 * c + j), q.2 37 (4 * c + j), q.1 36 (4 * c + j)) = _
    rw [h3]
theorem c_isCaller {T0 MI c : Nat} {M : xM} {o0 : Option xV} (hc : c < 6) : xZ T0 MI 34 0 [o0, some (vi (nI c))] [] M = some (some (vi 1), M) := by
  rw [bq_34_0, if_neg (nI_pos (by omega)), bq_34_4, if_neg (by rw [k_6, nI_leI (by omega) (by omega)]; omega), bq_34_10, bq_34_15]
  rfl
theorem mul4 (c : Nat) : nI c * Int32.ofInt 4 = nI (4 * c) := by rw [k_4, pk_mul, Nat.mul_comm]
theorem c_kfind_l {T0 MI a s cc v g c n : Nat} {q : xrho} {count : Int32} {M : xM} (D : nd5 a s cc v g) (hc : c < 6) (hn : n ≤ 4) (hq : q.1 34 c = nI n) : ∀ m k, k + m = n → xZ T0 MI 35 17 [some (vr (some a)), some (vi (nI c)), some (vi count), some (vi (nI (4 * c))), some (vi (nI (4 * c + k)))] [] (pKq a s cc v g q M) = some (some (vi (rfndI (rfnd (fun j => q.1 35 (4 * c + j)) count k m) (4 * c))), pKq a s cc v g q M) := by
  intro m
  induction m with
  | zero =>
    intro k hk
    simp (decide := true) (disch := omega) only [bq_35_17, Option.bind_some, xasI, xasL, xasR, xin_t, cond_true, cond_false, nI_clamp, k_0, k_1, k_2, k_3, k_4, k_5, k_6, k_40, k_60, k_500, k_10000, pk_mul, nI_add, nI_e0, nI_ee, nI_leI, nI_ltI, xbool0, xbool1, xbn0, xbn1, xb_0, xb_1, reduceIte, one0, Option.isNone_none, ne_eq, not_true_eq_false, not_false_eq_true, if_true, if_false, ite_not, Bool.true_and, Bool.and_true, pK_0 D, pK_aS D, hq]
    rw [if_pos (by omega), bq_35_50]
    rfl
  | succ m ih =>
    intro k hk
    simp (decide := true) (disch := omega) only [bq_35_17, Option.bind_some, xasI, xasL, xasR, xin_t, cond_true, cond_false, nI_clamp, k_0, k_1, k_2, k_3, k_4, k_5, k_6, k_40, k_60, k_500, k_10000, pk_mul, nI_add, nI_e0, nI_ee, nI_leI, nI_ltI, xbool0, xbool1, xbn0, xbn1, xb_0, xb_1, reduceIte, one0, Option.isNone_none, ne_eq, not_true_eq_false, not_false_eq_true, if_true, if_false, ite_not, Bool.true_and, Bool.and_true, pK_0 D, pK_aS D, hq]
    rw [if_neg (by omega)]
    simp (decide := true) (disch := omega) only [bq_35_30, Option.bind_some, xasI, xasL, xasR, xin_t, cond_true, cond_false, nI_clamp, k_0, k_1, k_2, k_3, k_4, k_5, k_6, k_40, k_60, k_500, k_10000, pk_mul, nI_add, nI_e0, nI_ee, nI_leI, nI_ltI, xbool0, xbool1, xbn0, xbn1, xb_0, xb_1, reduceIte, one0, Option.isNone_none, ne_eq, not_true_eq_false, not_false_eq_true, if_true, if_false, ite_not, Bool.true_and, Bool.and_true, pK_1 D, pK_aC D]
    unfold rfnd
    by_cases e : q.1 35 (4 * c + k) = count
    · rw [if_pos e, if_pos e, bq_35_41]
      rfl
    · rw [if_neg e, if_neg e, bq_35_44, nI_s]
      exact ih (k + 1) (by omega)
theorem c_kfind {T0 MI a s cc v g c n : Nat} {q : xrho} {count : Int32} {M : xM} {o3 o4 : Option xV} (D : nd5 a s cc v g) (hc : c < 6) (hn : n ≤ 4) (hq : q.1 34 c = nI n) : xZ T0 MI 35 0 [some (vr (some a)), some (vi (nI c)), some (vi count), o3, o4] [] (pKq a s cc v g q M) = some (some (vi (rfndI (rfnd (fun j => q.1 35 (4 * c + j)) count 0 n) (4 * c))), pKq a s cc v g q M) := by
  simp (decide := true) (disch := omega) only [bq_35_0, Option.bind_some, xasI, xasL, xasR, xin_t, cond_true, cond_false, nI_clamp, k_0, k_1, k_2, k_3, k_4, k_5, k_6, k_40, k_60, k_500, k_10000, pk_mul, nI_add, nI_e0, nI_ee, nI_leI, nI_ltI, xbool0, xbool1, xbn0, xbn1, xb_0, xb_1, reduceIte, one0, Option.isNone_none, ne_eq, not_true_eq_false, not_false_eq_true, if_true, if_false, ite_not, Bool.true_and, Bool.and_true, pK_c D]
  rw [c_isCaller hc]
  simp (decide := true) (disch := omega) only [bq_35_5, Option.bind_some, xasI, xasL, xasR, xin_t, cond_true, cond_false, nI_clamp, k_0, k_1, k_2, k_3, k_4, k_5, k_6, k_40, k_60, k_500, k_10000, pk_mul, nI_add, nI_e0, nI_ee, nI_leI, nI_ltI, xbool0, xbool1, xbn0, xbn1, xb_0, xb_1, reduceIte, one0, Option.isNone_none, ne_eq, not_true_eq_false, not_false_eq_true, if_true, if_false, ite_not, Bool.true_and, Bool.and_true]
  rw [bq_35_10, mul4]
  exact c_kfind_l D hc hn hq n 0 (by omega)
theorem c_below {T0 MI a s cc v g c : Nat} {q : xrho} {count : Int32} {M : xM} {k : KW} (D : nd5 a s cc v g) (hc : c < 6) (hK : CK q c k) : xZ T0 MI 36 0 [some (vr (some a)), some (vi (nI c)), some (vi count)] [] (pKq a s cc v g q M) = some (some (vi (tI (oldK k count))), pKq a s cc v g q M) := by
  have b := hK.2.1
  simp (decide := true) (disch := omega) only [bq_36_0, Option.bind_some, xasI, xasL, xasR, xin_t, cond_true, cond_false, nI_clamp, k_0, k_1, k_2, k_3, k_4, k_5, k_6, k_40, k_60, k_500, k_10000, pk_mul, nI_add, nI_e0, nI_ee, nI_leI, nI_ltI, xbool0, xbool1, xbn0, xbn1, xb_0, xb_1, reduceIte, one0, Option.isNone_none, ne_eq, not_true_eq_false, not_false_eq_true, if_true, if_false, ite_not, Bool.true_and, Bool.and_true, pK_c D]
  rw [c_isCaller hc]
  simp (decide := true) (disch := omega) only [bq_36_5, bq_36_8, Option.bind_some, xasI, xasL, xasR, xin_t, cond_true, cond_false, nI_clamp, k_0, k_1, k_2, k_3, k_4, k_5, k_6, k_40, k_60, k_500, k_10000, pk_mul, nI_add, nI_e0, nI_ee, nI_leI, nI_ltI, xbool0, xbool1, xbn0, xbn1, xb_0, xb_1, reduceIte, one0, Option.isNone_none, ne_eq, not_true_eq_false, not_false_eq_true, if_true, if_false, ite_not, Bool.true_and, Bool.and_true, pK_0 D, pK_aS D, hK.1]
  by_cases e : k.length = 4
  · rw [if_pos e, bq_36_18, mul4]
    simp (decide := true) (disch := omega) only [Option.bind_some, xasI, xasL, xasR, xin_t, cond_true, cond_false, nI_clamp, k_0, k_1, k_2, k_3, k_4, k_5, k_6, k_40, k_60, k_500, k_10000, pk_mul, nI_add, nI_e0, nI_ee, nI_leI, nI_ltI, xbool0, xbool1, xbn0, xbn1, xb_0, xb_1, reduceIte, one0, Option.isNone_none, ne_eq, not_true_eq_false, not_false_eq_true, if_true, if_false, ite_not, Bool.true_and, Bool.and_true, pK_1 D, pK_aC D]
    have hh : k.head? = some (q.1 35 (4 * c), q.2 37 (4 * c), q.1 36 (4 * c)) := by
      have := CK_get hK (j := 0) (by omega)
      cases k with
      | nil => cases e
      | cons x k => exact congrArg some this
    by_cases e2 : q.1 35 (4 * c) ≤ count
    · rw [if_pos e2, bq_36_34, bq_36_35, tI_f (fun h => by
        have := h.2
        rw [hh] at this
        exact Int32.not_le.mpr this e2)]
      rfl
    · rw [if_neg e2, bq_36_30, bq_36_35, tI_t (show oldK k count from ⟨e, by rw [hh]; exact Int32.not_le.mp e2⟩)]
      rfl
  · rw [if_neg e, bq_36_34, bq_36_35, tI_f (fun h => e h.1)]
    rfl
theorem c_shift {T0 MI a s cc v g i j : Nat} {q : xrho} {M : xM} (D : nd5 a s cc v g) (hi : i < 24) (hj : j < 24) : xZ T0 MI 38 0 [some (vr (some a)), some (vi (nI i)), some (vi (nI j))] [] (pKq a s cc v g q M) = some (none, pKq a s cc v g (rup (rupL (rup q 35 j (q.1 35 i)) 37 j (q.2 37 i)) 36 j (q.1 36 i)) M) := by
  simp (decide := true) (disch := omega) only [bq_38_0, Option.bind_some, xasI, xasL, xasR, xin_t, cond_true, cond_false, nI_clamp, k_0, k_1, k_2, k_3, k_4, k_5, k_6, k_40, k_60, k_500, k_10000, pk_mul, nI_add, nI_e0, nI_ee, nI_leI, nI_ltI, xbool0, xbool1, xbn0, xbn1, xb_0, xb_1, reduceIte, one0, Option.isNone_none, ne_eq, not_true_eq_false, not_false_eq_true, if_true, if_false, ite_not, Bool.true_and, Bool.and_true, pK_1 D, pK_2 D, pK_3 D, pK_aC D, pK_wC D, pK_aV D, pK_wV D, pK_aG, pK_wG]
  rfl
/-- the least is dropped -/
def kdl (q : xrho) (b i : Nat) : xrho := (va_up (va_up q.1 35 (delK (q.1 35) b 0 i)) 36 (delK (q.1 36) b 0 i), va_up q.2 37 (delK (q.2 37) b 0 i))
theorem kdl_0 (q : xrho) (b : Nat) : kdl q b 0 = q := by
  unfold kdl
  rw [delK_0, delK_0, delK_0, va_up_id, va_up_id, va_up_id]
theorem kdl_35 (q : xrho) (b i : Nat) : (kdl q b i).1 35 = delK (q.1 35) b 0 i := by
  unfold kdl
  dsimp only
  rw [va_up_ne _ _ (by decide), va_up_self]
theorem kdl_36 (q : xrho) (b i : Nat) : (kdl q b i).1 36 = delK (q.1 36) b 0 i := by
  unfold kdl
  dsimp only
  rw [va_up_self]
theorem kdl_37 (q : xrho) (b i : Nat) : (kdl q b i).2 37 = delK (q.2 37) b 0 i := by
  unfold kdl
  dsimp only
  rw [va_up_self]
theorem kdl_34 (q : xrho) (b i : Nat) : (kdl q b i).1 34 = q.1 34 := by
  unfold kdl
  dsimp only
  rw [va_up_ne _ _ (by decide), va_up_ne _ _ (by decide)]
theorem kdl_s {q : xrho} {b i : Nat} : rup (rupL (rup (kdl q b i) 35 (b + i) ((kdl q b i).1 35 (b + (i + 1)))) 37 (b + i) ((kdl q b i).2 37 (b + (i + 1)))) 36 (b + i) ((kdl q b i).1 36 (b + (i + 1))) = kdl q b (i + 1) := by
  unfold rup rupL
  dsimp only
  rw [kdl_35, kdl_37, va_up_ne _ _ (show (36 : Nat) ≠ 35 by decide), kdl_36]
  unfold kdl
  dsimp only
  rw [va_up2 _ (by decide), va_up_up]
  congr 2
  · congr 1
    exact delK_step _ (Nat.zero_le _)
  · exact delK_step _ (Nat.zero_le _)
  · exact delK_step _ (Nat.zero_le _)
theorem c_kdl {T0 MI a s cc v g c : Nat} {q : xrho} {count sign : Int32} {w : Int64} {M : xM} {o4 : Option xV} (D : nd5 a s cc v g) (hc : c < 6) : ∀ m i, i + m = 3 → xZ T0 MI 37 48 [some (vr (some a)), some (vi (nI c)), some (vi count), some (vl w), o4, some (vi sign), some (vi (nI (4 * c))), some (vi (nI (4 * c + (i + 1))))] [] (pKq a s cc v g (kdl q (4 * c) i) M) = xZ T0 MI 37 73 [some (vr (some a)), some (vi (nI c)), some (vi count), some (vl w), o4, some (vi sign), some (vi (nI (4 * c))), some (vi (nI (4 * c + 4)))] [] (pKq a s cc v g (kdl q (4 * c) 3) M) := by
  intro m
  induction m with
  | zero =>
    intro i hi
    have : i = 3 := by omega
    subst this
    rw [bq_37_48, k_4, nI_add, if_pos (by rw [nI_leI (by omega) (by omega)]; omega)]
  | succ m ih =>
    intro i hi
    rw [bq_37_48, k_4, nI_add, if_neg (by rw [nI_leI (by omega) (by omega)]; omega), bq_37_57, k_1, ← Nat.add_assoc, nI_s1]
    simp (decide := true) (disch := omega) only [Option.bind_some, xasI, xasL, xasR, xin_t, cond_true, cond_false, nI_clamp, k_0, k_1, k_2, k_3, k_4, k_5, k_6, k_40, k_60, k_500, k_10000, pk_mul, nI_add, nI_e0, nI_ee, nI_leI, nI_ltI, xbool0, xbool1, xbn0, xbn1, xb_0, xb_1, reduceIte, one0, Option.isNone_none, ne_eq, not_true_eq_false, not_false_eq_true, if_true, if_false, ite_not, Bool.true_and, Bool.and_true, pK_c D]
    rw [c_shift D (by omega) (by omega), show 4 * c + i + 1 = 4 * c + (i + 1) from Nat.add_assoc _ _ _, kdl_s]
    simp (decide := true) (disch := omega) only [bq_37_67, Option.bind_some, xasI, xasL, xasR, xin_t, cond_true, cond_false, nI_clamp, k_0, k_1, k_2, k_3, k_4, k_5, k_6, k_40, k_60, k_500, k_10000, pk_mul, nI_add, nI_e0, nI_ee, nI_leI, nI_ltI, xbool0, xbool1, xbn0, xbn1, xb_0, xb_1, reduceIte, one0, Option.isNone_none, ne_eq, not_true_eq_false, not_false_eq_true, if_true, if_false, ite_not, Bool.true_and, Bool.and_true]
    exact ih (i + 1) (by omega)
/-- into its place -/
theorem c_kins {T0 MI a s cc v g c n : Nat} {q : xrho} {count sign : Int32} {w : Int64} {M : xM} {o4 : Option xV} (D : nd5 a s cc v g) (hc : c < 6) (hn : n < 4) (hq : q.1 34 c = nI n) : ∀ j, j ≤ n → xZ T0 MI 37 94 [some (vr (some a)), some (vi (nI c)), some (vi count), some (vl w), o4, some (vi sign), some (vi (nI (4 * c))), some (vi (nI (4 * c + j)))] [] (pKq a s cc v g (ksh q (4 * c) j n) M) = some (none, pKq a s cc v g (rup (keepq q c n (rpos (fun x => q.1 35 (4 * c + x)) count j) count w sign) 34 c (nI (n + 1))) M) := by
  have fin : ∀ pos, pos ≤ n → xZ T0 MI 37 130 [some (vr (some a)), some (vi (nI c)), some (vi count), some (vl w), o4, some (vi sign), some (vi (nI (4 * c))), some (vi (nI (4 * c + pos)))] [] (pKq a s cc v g (ksh q (4 * c) pos n) M) = some (none, pKq a s cc v g (rup (keepq q c n pos count w sign) 34 c (nI (n + 1))) M) := by
    intro pos hpos
    have e34 : ∀ x : xrho, x.1 34 = q.1 34 → x.1 34 c = nI n := fun x hx => by rw [hx]; exact hq
    have e1 : (rup (rupL (rup (ksh q (4 * c) pos n) 35 (4 * c + pos) count) 37 (4 * c + pos) w) 36 (4 * c + pos) sign).1 34 c = nI n := e34 _ (by
      rw [rup_ne _ _ _ _ (by decide), rupL_1, rup_ne _ _ _ _ (by decide)]
      unfold ksh
      dsimp only
      rw [va_up_ne _ _ (by decide), va_up_ne _ _ (by decide)])
    simp (decide := true) (disch := omega) only [bq_37_130, Option.bind_some, xasI, xasL, xasR, xin_t, cond_true, cond_false, nI_clamp, k_0, k_1, k_2, k_3, k_4, k_5, k_6, k_40, k_60, k_500, k_10000, pk_mul, nI_add, nI_e0, nI_ee, nI_leI, nI_ltI, xbool0, xbool1, xbn0, xbn1, xb_0, xb_1, reduceIte, one0, Option.isNone_none, ne_eq, not_true_eq_false, not_false_eq_true, if_true, if_false, ite_not, Bool.true_and, Bool.and_true, pK_0 D, pK_1 D, pK_2 D, pK_3 D, pK_wC D, pK_wV D, pK_wG, pK_aS D, e1, pK_wS D]
    rfl
  intro j
  induction j with
  | zero =>
    intro hj
    rw [bq_37_94, if_pos (by rw [nI_leI (by omega) (by omega)]; omega)]
    exact fin 0 hj
  | succ j ih =>
    intro hj
    rw [bq_37_94, if_neg (by rw [nI_leI (by omega) (by omega)]; omega), bq_37_101, k_1, ← Nat.add_assoc, nI_s1]
    have e35 : (ksh q (4 * c) (j + 1) n).1 35 (4 * c + j) = q.1 35 (4 * c + j) := by
      rw [ksh_35]
      unfold insK
      rw [if_neg (by omega)]
    simp (decide := true) (disch := omega) only [Option.bind_some, xasI, xasL, xasR, xin_t, cond_true, cond_false, nI_clamp, k_0, k_1, k_2, k_3, k_4, k_5, k_6, k_40, k_60, k_500, k_10000, pk_mul, nI_add, nI_e0, nI_ee, nI_leI, nI_ltI, xbool0, xbool1, xbn0, xbn1, xb_0, xb_1, reduceIte, one0, Option.isNone_none, ne_eq, not_true_eq_false, not_false_eq_true, if_true, if_false, ite_not, Bool.true_and, Bool.and_true, pK_1 D, pK_aC D, e35]
    by_cases h : count < q.1 35 (4 * c + j)
    · rw [if_neg (Int32.not_le.mpr h), bq_37_114, k_1, nI_s1]
      simp (decide := true) (disch := omega) only [Option.bind_some, xasI, xasL, xasR, xin_t, cond_true, cond_false, nI_clamp, k_0, k_1, k_2, k_3, k_4, k_5, k_6, k_40, k_60, k_500, k_10000, pk_mul, nI_add, nI_e0, nI_ee, nI_leI, nI_ltI, xbool0, xbool1, xbn0, xbn1, xb_0, xb_1, reduceIte, one0, Option.isNone_none, ne_eq, not_true_eq_false, not_false_eq_true, if_true, if_false, ite_not, Bool.true_and, Bool.and_true, pK_c D]
      rw [c_shift D (by omega) (by omega)]
      have e := ksh_step (q := q) (b := 4 * c) (j := j) (n := n) (x := (ksh q (4 * c) (j + 1) n).1 35 (4 * c + j)) (y := (ksh q (4 * c) (j + 1) n).2 37 (4 * c + j)) (z := (ksh q (4 * c) (j + 1) n).1 36 (4 * c + j)) (by omega) (by rw [ksh_35]) (by rw [ksh_37]) (by rw [ksh_36])
      rw [show 4 * c + j + 1 = 4 * c + (j + 1) from Nat.add_assoc _ _ _, e]
      simp (decide := true) (disch := omega) only [bq_37_124, Option.bind_some, xasI, xasL, xasR, xin_t, cond_true, cond_false, nI_clamp, k_0, k_1, k_2, k_3, k_4, k_5, k_6, k_40, k_60, k_500, k_10000, pk_mul, nI_add, nI_e0, nI_ee, nI_leI, nI_ltI, xbool0, xbool1, xbn0, xbn1, xb_0, xb_1, reduceIte, one0, Option.isNone_none, ne_eq, not_true_eq_false, not_false_eq_true, if_true, if_false, ite_not, Bool.true_and, Bool.and_true, dec1]
      rw [show 4 * c + (j + 1) = (4 * c + j) + 1 by omega, nI_s1, ih (by omega)]
      conv => rhs; unfold rpos
      rw [if_pos h]
    · rw [if_pos (Int32.not_lt.mp h)]
      have e : rpos (fun x => q.1 35 (4 * c + x)) count (j + 1) = j + 1 := by
        unfold rpos
        rw [if_neg h]
      rw [e]
      exact fin (j + 1) hj
theorem keepq_out {q : xrho} {c s pos c' j : Nat} {count : Int32} {w : Int64} {sign : Int32} (hpos : pos ≤ s) (hs : s ≤ 3) (hc : c' ≠ c) (hj : j < 4) : (keepq q c s pos count w sign).1 35 (4 * c' + j) = q.1 35 (4 * c' + j) ∧ (keepq q c s pos count w sign).2 37 (4 * c' + j) = q.2 37 (4 * c' + j) ∧ (keepq q c s pos count w sign).1 36 (4 * c' + j) = q.1 36 (4 * c' + j) := by
  rw [keepq_35, keepq_36, keepq_37]
  unfold insK
  rw [if_neg (by omega), if_neg (by omega), if_neg (by omega), if_neg (by omega), if_neg (by omega), if_neg (by omega)]
  exact ⟨rfl, rfl, rfl⟩
theorem keepq_34 (q : xrho) (c s pos : Nat) (count : Int32) (w : Int64) (sign : Int32) : (keepq q c s pos count w sign).1 34 = q.1 34 := by
  unfold keepq
  rw [rup_ne _ _ _ _ (by decide), rupL_1, rup_ne _ _ _ _ (by decide)]
  unfold ksh
  dsimp only
  rw [va_up_ne _ _ (by decide), va_up_ne _ _ (by decide)]
theorem CK_ins {q : xrho} {c : Nat} {k : KW} {count sign : Int32} {w : Int64} (hl : k.length < 4) (hw : win (fun x => (q.1 35 x, q.2 37 x, q.1 36 x)) (4 * c) k.length = k) (hs : srt Prod.fst k) (hs2 : srt Prod.fst (insR Prod.fst (count, w, sign) k)) : CK (rup (keepq q c k.length (rpos (fun x => q.1 35 (4 * c + x)) count k.length) count w sign) 34 c (nI (k.length + 1))) c (insR Prod.fst (count, w, sign) k) := by
  have hpos := rpos_le (fun x => q.1 35 (4 * c + x)) count k.length
  refine ⟨by rw [rup_at, insR_len], by rw [insR_len]; omega, ?_, hs2⟩
  rw [insR_len]
  have e1 := keepq_win (q := q) (c := c) (count := count) (v := w) (sign := sign) hpos
  have e2 := win_insR (k := (Prod.fst : Int32 × Int64 × Int32 → Int32)) (f := fun x => (q.1 35 x, q.2 37 x, q.1 36 x)) (b := 4 * c) (n := k.length) (x := (count, w, sign)) (key := count) rfl (by rw [hw]; exact hs)
  rw [hw] at e2
  rw [← e2]
  exact e1
theorem c_kkeep {T0 MI a s cc v g c : Nat} {q : xrho} {count sign : Int32} {w : Int64} {M : xM} {k : KW} {o4 o6 o7 : Option xV} (D : nd5 a s cc v g) (hc : c < 6) (hK : CK q c k) : ∃ q', xZ T0 MI 37 0 [some (vr (some a)), some (vi (nI c)), some (vi count), some (vl w), o4, some (vi sign), o6, o7] [] (pKq a s cc v g q M) = some (none, pKq a s cc v g q' M) ∧ CK q' c (keepL k (count, w, sign)) ∧ ∀ c' k', c' ≠ c → CK q c' k' → CK q' c' k' := by
  have b := hK.2.1
  have hl := CK_lkp hK count
  have hsrt := keepL_srt (x := (count, w, sign)) hK.2.2.2
  have st : xZ T0 MI 37 0 [some (vr (some a)), some (vi (nI c)), some (vi count), some (vl w), o4, some (vi sign), o6, o7] [] (pKq a s cc v g q M) = xZ T0 MI 37 14 [some (vr (some a)), some (vi (nI c)), some (vi count), some (vl w), o4, some (vi sign), o6, o7] [vi (rfndI (rfnd (fun j => q.1 35 (4 * c + j)) count 0 k.length) (4 * c))] (pKq a s cc v g q M) := by
    simp (decide := true) (disch := omega) only [bq_37_0, Option.bind_some, xasI, xasL, xasR, xin_t, cond_true, cond_false, nI_clamp, k_0, k_1, k_2, k_3, k_4, k_5, k_6, k_40, k_60, k_500, k_10000, pk_mul, nI_add, nI_e0, nI_ee, nI_leI, nI_ltI, xbool0, xbool1, xbn0, xbn1, xb_0, xb_1, reduceIte, one0, Option.isNone_none, ne_eq, not_true_eq_false, not_false_eq_true, if_true, if_false, ite_not, Bool.true_and, Bool.and_true, pK_c D]
    rw [c_isCaller hc]
    simp (decide := true) (disch := omega) only [bq_37_5, bq_37_8, Option.bind_some, xasI, xasL, xasR, xin_t, cond_true, cond_false, nI_clamp, k_0, k_1, k_2, k_3, k_4, k_5, k_6, k_40, k_60, k_500, k_10000, pk_mul, nI_add, nI_e0, nI_ee, nI_leI, nI_ltI, xbool0, xbool1, xbn0, xbn1, xb_0, xb_1, reduceIte, one0, Option.isNone_none, ne_eq, not_true_eq_false, not_false_eq_true, if_true, if_false, ite_not, Bool.true_and, Bool.and_true, pK_c D]
    rw [c_kfind D hc hK.2.1 hK.1]
    rfl
  rw [st]
  cases ho : rfnd (fun j => q.1 35 (4 * c + j)) count 0 k.length with
  | some j =>
    rw [ho] at hl
    dsimp only at hl
    refine ⟨q, ?_, ?_, fun _ _ _ h => h⟩
    · rw [bq_37_14, show rfndI (some j) (4 * c) = nI (4 * c + j) from rfl, if_pos (le_0 (by have := hl.1; omega)), bq_37_26]
    · unfold keepL
      rw [hl.2]
      exact hK
  | none =>
    rw [ho] at hl
    dsimp only at hl
    rw [bq_37_14, if_neg (show ¬ (0 ≤ rfndI none (4 * c)) from (by decide : ¬ ((0 : Int32) ≤ Int32.ofInt (-1))))]
    simp (decide := true) (disch := omega) only [bq_37_17, Option.bind_some, xasI, xasL, xasR, xin_t, cond_true, cond_false, nI_clamp, k_0, k_1, k_2, k_3, k_4, k_5, k_6, k_40, k_60, k_500, k_10000, pk_mul, nI_add, nI_e0, nI_ee, nI_leI, nI_ltI, xbool0, xbool1, xbn0, xbn1, xb_0, xb_1, reduceIte, one0, Option.isNone_none, ne_eq, not_true_eq_false, not_false_eq_true, if_true, if_false, ite_not, Bool.true_and, Bool.and_true, pK_c D]
    rw [c_below D hc hK]
    unfold keepL at hsrt ⊢
    dsimp only at hsrt ⊢
    rw [hl] at hsrt ⊢
    dsimp only at hsrt ⊢
    by_cases a1 : oldK k count
    · rw [tI_t a1]
      have a2 : count < (k.head?.getD (count, w, sign)).1 := by
        have := a1.2
        cases k with
        | nil => exact absurd a1.1 (by simp)
        | cons x k => exact this
      refine ⟨q, ?_, ?_, fun _ _ _ h => h⟩
      · simp (decide := true) (disch := omega) only [bq_37_23, bq_37_26, Option.bind_some, xasI, xasL, xasR, xin_t, cond_true, cond_false, nI_clamp, k_0, k_1, k_2, k_3, k_4, k_5, k_6, k_40, k_60, k_500, k_10000, pk_mul, nI_add, nI_e0, nI_ee, nI_leI, nI_ltI, xbool0, xbool1, xbn0, xbn1, xb_0, xb_1, reduceIte, one0, Option.isNone_none, ne_eq, not_true_eq_false, not_false_eq_true, if_true, if_false, ite_not, Bool.true_and, Bool.and_true]
      · rw [if_pos a1.1, if_pos a2]
        exact hK
    · rw [tI_f a1]
      by_cases e : k.length = 4
      · have a2 : ¬ count < (k.head?.getD (count, w, sign)).1 := by
          intro h
          refine a1 ⟨e, ?_⟩
          cases k with
          | nil => exact absurd e (by simp)
          | cons x k => exact h
        rw [if_pos e, if_neg a2] at hsrt ⊢
        have hq4 : q.1 34 c = nI 4 := by rw [hK.1, e]
        have htl : k.tail.length = 3 := by rw [List.length_tail, e]
        have hw3 : win (fun x => ((rup (kdl q (4 * c) 3) 34 c (nI 3)).1 35 x, (rup (kdl q (4 * c) 3) 34 c (nI 3)).2 37 x, (rup (kdl q (4 * c) 3) 34 c (nI 3)).1 36 x)) (4 * c) k.tail.length = k.tail := by
          rw [htl]
          have hk := hK.2.2.1
          rw [e, win_cons] at hk
          rw [← hk, List.tail_cons]
          apply win_congr
          intro j hj
          rw [rup_ne _ _ _ _ (by decide), rup_ne _ _ _ _ (by decide), rup_2, kdl_35, kdl_36, kdl_37]
          unfold delK
          rw [if_pos ⟨by omega, by omega⟩, if_pos ⟨by omega, by omega⟩, if_pos ⟨by omega, by omega⟩, show 4 * c + j + 1 = 4 * c + 1 + j by omega]
        have hst : srt Prod.fst k.tail := List.Pairwise.sublist (List.tail_sublist k) hK.2.2.2
        have hC := CK_ins (q := rup (kdl q (4 * c) 3) 34 c (nI 3)) (c := c) (count := count) (sign := sign) (w := w) (show k.tail.length < 4 by omega) hw3 hst hsrt
        have e34 : (rup (kdl q (4 * c) 3) 34 c (nI 3)).1 34 c = nI 3 := rup_at _ _ _ _
        have go := c_kins (T0 := T0) (MI := MI) (M := M) (count := count) (sign := sign) (w := w) (o4 := o4) (q := rup (kdl q (4 * c) 3) 34 c (nI 3)) D hc (show 3 < 4 by omega) e34 3 (Nat.le_refl _)
        rw [ksh_n] at go
        rw [htl] at hC
        refine ⟨_, ?_, hC, fun c' k' hcc h => ?_⟩
        · refine Eq.trans ?_ go
          simp (decide := true) (disch := omega) only [bq_37_23, Option.bind_some, xasI, xasL, xasR, xin_t, cond_true, cond_false, nI_clamp, k_0, k_1, k_2, k_3, k_4, k_5, k_6, k_40, k_60, k_500, k_10000, pk_mul, nI_add, nI_e0, nI_ee, nI_leI, nI_ltI, xbool0, xbool1, xbn0, xbn1, xb_0, xb_1, reduceIte, one0, Option.isNone_none, ne_eq, not_true_eq_false, not_false_eq_true, if_true, if_false, ite_not, Bool.true_and, Bool.and_true]
          rw [bq_37_27, mul4]
          simp (decide := true) (disch := omega) only [Option.bind_some, xasI, xasL, xasR, xin_t, cond_true, cond_false, nI_clamp, k_0, k_1, k_2, k_3, k_4, k_5, k_6, k_40, k_60, k_500, k_10000, pk_mul, nI_add, nI_e0, nI_ee, nI_leI, nI_ltI, xbool0, xbool1, xbn0, xbn1, xb_0, xb_1, reduceIte, one0, Option.isNone_none, ne_eq, not_true_eq_false, not_false_eq_true, if_true, if_false, ite_not, Bool.true_and, Bool.and_true, pK_0 D, pK_aS D, hq4]
          rw [bq_37_42, k_1, nI_add]
          have kd := c_kdl (T0 := T0) (MI := MI) (M := M) (q := q) (count := count) (sign := sign) (w := w) (o4 := o4) D hc 3 0 (by omega)
          rw [kdl_0] at kd
          rw [show 4 * c + 1 = 4 * c + (0 + 1) by omega, kd, bq_37_73, k_1]
          have k34 : (kdl q (4 * c) 3).1 34 c = nI 4 := by rw [kdl_34, hq4]
          simp (decide := true) (disch := omega) only [Option.bind_some, xasI, xasL, xasR, xin_t, cond_true, cond_false, nI_clamp, k_0, k_1, k_2, k_3, k_4, k_5, k_6, k_40, k_60, k_500, k_10000, pk_mul, nI_add, nI_e0, nI_ee, nI_leI, nI_ltI, xbool0, xbool1, xbn0, xbn1, xb_0, xb_1, reduceIte, one0, Option.isNone_none, ne_eq, not_true_eq_false, not_false_eq_true, if_true, if_false, ite_not, Bool.true_and, Bool.and_true, pK_0 D, pK_aS D, k34, pK_wS D]
          rw [show nI 4 - nI 1 = nI 3 from nI_s1 3, bq_37_83]
          simp (decide := true) (disch := omega) only [Option.bind_some, xasI, xasL, xasR, xin_t, cond_true, cond_false, nI_clamp, k_0, k_1, k_2, k_3, k_4, k_5, k_6, k_40, k_60, k_500, k_10000, pk_mul, nI_add, nI_e0, nI_ee, nI_leI, nI_ltI, xbool0, xbool1, xbn0, xbn1, xb_0, xb_1, reduceIte, one0, Option.isNone_none, ne_eq, not_true_eq_false, not_false_eq_true, if_true, if_false, ite_not, Bool.true_and, Bool.and_true, pK_0 D, pK_aS D, e34]
        · refine CK_c h ?_ (fun j hj => ?_)
          · rw [rup_nx _ _ _ _ hcc, keepq_34, rup_nx _ _ _ _ hcc, kdl_34]
          · have ko := keepq_out (q := rup (kdl q (4 * c) 3) 34 c (nI 3)) (c := c) (s := 3) (count := count) (w := w) (sign := sign) (rpos_le (fun x => (rup (kdl q (4 * c) 3) 34 c (nI 3)).1 35 (4 * c + x)) count 3) (by omega) hcc hj
            refine ⟨(congrFun (rup_ne _ _ _ _ (by decide)) _).trans (ko.1.trans ?_), ko.2.1.trans ?_, (congrFun (rup_ne _ _ _ _ (by decide)) _).trans (ko.2.2.trans ?_)⟩
            · rw [rup_ne _ _ _ _ (by decide), kdl_35]
              unfold delK
              rw [if_neg (by omega)]
            · rw [rup_2, kdl_37]
              unfold delK
              rw [if_neg (by omega)]
            · rw [rup_ne _ _ _ _ (by decide), kdl_36]
              unfold delK
              rw [if_neg (by omega)]
      · rw [if_neg e] at hsrt ⊢
        have hC := CK_ins (count := count) (sign := sign) (w := w) (show k.length < 4 by omega) hK.2.2.1 hK.2.2.2 hsrt
        have go := c_kins (T0 := T0) (MI := MI) (M := M) (count := count) (sign := sign) (w := w) (o4 := o4) D hc (show k.length < 4 by omega) hK.1 k.length (Nat.le_refl _)
        rw [ksh_n] at go
        refine ⟨_, ?_, hC, fun c' k' hcc h => ?_⟩
        · refine Eq.trans ?_ go
          simp (decide := true) (disch := omega) only [bq_37_23, Option.bind_some, xasI, xasL, xasR, xin_t, cond_true, cond_false, nI_clamp, k_0, k_1, k_2, k_3, k_4, k_5, k_6, k_40, k_60, k_500, k_10000, pk_mul, nI_add, nI_e0, nI_ee, nI_leI, nI_ltI, xbool0, xbool1, xbn0, xbn1, xb_0, xb_1, reduceIte, one0, Option.isNone_none, ne_eq, not_true_eq_false, not_false_eq_true, if_true, if_false, ite_not, Bool.true_and, Bool.and_true]
          rw [bq_37_27, mul4]
          simp (decide := true) (disch := omega) only [Option.bind_some, xasI, xasL, xasR, xin_t, cond_true, cond_false, nI_clamp, k_0, k_1, k_2, k_3, k_4, k_5, k_6, k_40, k_60, k_500, k_10000, pk_mul, nI_add, nI_e0, nI_ee, nI_leI, nI_ltI, xbool0, xbool1, xbn0, xbn1, xb_0, xb_1, reduceIte, one0, Option.isNone_none, ne_eq, not_true_eq_false, not_false_eq_true, if_true, if_false, ite_not, Bool.true_and, Bool.and_true, pK_0 D, pK_aS D, hK.1]
          rw [if_neg e, bq_37_83]
          simp (decide := true) (disch := omega) only [Option.bind_some, xasI, xasL, xasR, xin_t, cond_true, cond_false, nI_clamp, k_0, k_1, k_2, k_3, k_4, k_5, k_6, k_40, k_60, k_500, k_10000, pk_mul, nI_add, nI_e0, nI_ee, nI_leI, nI_ltI, xbool0, xbool1, xbn0, xbn1, xb_0, xb_1, reduceIte, one0, Option.isNone_none, ne_eq, not_true_eq_false, not_false_eq_true, if_true, if_false, ite_not, Bool.true_and, Bool.and_true, pK_0 D, pK_aS D, hK.1]
        · refine CK_c h ?_ (fun j hj => ?_)
          · rw [rup_nx _ _ _ _ hcc, keepq_34]
          · have ko := keepq_out (q := q) (c := c) (s := k.length) (count := count) (w := w) (sign := sign) (rpos_le (fun x => q.1 35 (4 * c + x)) count k.length) (by omega) hcc hj
            rw [rup_ne _ _ _ _ (by decide), rup_ne _ _ _ _ (by decide), rup_2, ko.1, ko.2.1, ko.2.2]
            exact ⟨rfl, rfl, rfl⟩
