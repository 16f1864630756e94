/-! ArrayList -/
def pLq (a ea N : Nat) (m n : Int32) (f : Nat → Option Nat) (M : xM) : xM := xset (xset M a (.inr (13, [vi m, vr (some ea), vi n]))) ea (.inl (3, N, .inr (.inr f)))
theorem pL_o {a ea N : Nat} {m n : Int32} {f : Nat → Option Nat} {M : xM} (D : a ≠ ea) : (pLq a ea N m n f M).2.2 a = .inr (13, [vi m, vr (some ea), vi n]) := by
  unfold pLq
  rw [xset_ne _ _ D, xset_at]
theorem pL_e {a ea N : Nat} {m n : Int32} {f : Nat → Option Nat} {M : xM} : (pLq a ea N m n f M).2.2 ea = .inl (3, N, .inr (.inr f)) := by
  unfold pLq
  rw [xset_at]
theorem pL_out {a ea N b : Nat} {m n : Int32} {f : Nat → Option Nat} {M : xM} (h1 : b ≠ a) (h2 : b ≠ ea) : (pLq a ea N m n f M).2.2 b = M.2.2 b := by
  unfold pLq
  rw [xset_ne _ _ h2, xset_ne _ _ h1]
theorem pL_id {a ea N : Nat} {m n : Int32} {f : Nat → Option Nat} {M : xM} (h1 : M.2.2 a = .inr (13, [vi m, vr (some ea), vi n])) (h2 : M.2.2 ea = .inl (3, N, .inr (.inr f))) : pLq a ea N m n f M = M := by
  unfold pLq
  rw [xset_id h1, xset_id h2]
theorem pL_m {a ea N : Nat} {m n : Int32} {f : Nat → Option Nat} {M : xM} (D : a ≠ ea) : xgetI (pLq a ea N m n f M) a 13 0 = some m := gI (pL_o D) 0 rfl
theorem pL_1 {a ea N : Nat} {m n : Int32} {f : Nat → Option Nat} {M : xM} (D : a ≠ ea) : xgetR (pLq a ea N m n f M) a 13 1 = some (some ea) := gR (pL_o D) 1 rfl
theorem pL_2 {a ea N : Nat} {m n : Int32} {f : Nat → Option Nat} {M : xM} (D : a ≠ ea) : xgetI (pLq a ea N m n f M) a 13 2 = some n := gI (pL_o D) 2 rfl
theorem pL_c {a ea N : Nat} {m n : Int32} {f : Nat → Option Nat} {M : xM} (D : a ≠ ea) : xcls (pLq a ea N m n f M) a 13 = true := gC (pL_o D)
theorem pL_l {a ea N : Nat} {m n : Int32} {f : Nat → Option Nat} {M : xM} : xlenA (pLq a ea N m n f M) ea = some (nI N) := lenR pL_e rfl
theorem pL_a {a ea N : Nat} {m n : Int32} {f : Nat → Option Nat} {M : xM} (i : Int32) : xaR (pLq a ea N m n f M) ea i = bif xin i N then some (f i.toNatClampNeg) else none := aR pL_e rfl i
theorem pL_pm {a ea N : Nat} {m n : Int32} {f : Nat → Option Nat} {M : xM} (D : a ≠ ea) (x : Int32) : xput (pLq a ea N m n f M) a 13 0 (vi x) = some (pLq a ea N x n f M) := by
  rw [pV (pL_o D) 0 rfl]
  unfold pLq
  rw [xset_comm _ _ _ (Ne.symm D), xset_xset]
  rfl
theorem pL_pn {a ea N : Nat} {m n : Int32} {f : Nat → Option Nat} {M : xM} (D : a ≠ ea) (x : Int32) : xput (pLq a ea N m n f M) a 13 2 (vi x) = some (pLq a ea N m x f M) := by
  rw [pV (pL_o D) 2 rfl]
  unfold pLq
  rw [xset_comm _ _ _ (Ne.symm D), xset_xset]
  rfl
theorem pL_s {a ea N i : Nat} {m n : Int32} {f : Nat → Option Nat} {M : xM} {r : Option Nat} (hi : i < N) (hN : N ≤ 4000) (hr : xmayR (pLq a ea N m n f M) 3 r = true) : xsR (pLq a ea N m n f M) ea (nI i) r = some (pLq a ea N m n (va_up f i r) M) := by
  rw [sR pL_e rfl, hr, xin_t hi (by omega), nI_clamp (by omega)]
  unfold pLq
  rw [xset_xset]
  rfl
/-- an object lies there -/
def isObj (M : xM) (v : Nat) : Prop := ∃ c fs, M.2.2 v = .inr (c, fs) ∧ c < 14
theorem obj_may {M : xM} {v : Nat} (h : isObj M v) : xmayR M 3 (some v) = true := by
  obtain ⟨c, fs, h1, h2⟩ := h
  refine mayR h1 ?_
  unfold xfitR
  have : Nat.blt c 14 = true := by simp [Nat.blt]; omega
  rw [this]
  rfl
theorem may_c {M M' : xM} {t v : Nat} (h : M'.2.2 v = M.2.2 v) : xmayR M' t (some v) = xmayR M t (some v) := by
  unfold xmayR
  dsimp only
  unfold xclsO
  rw [h]
theorem shr1_all : (List.range 4001).all (fun N => decide (nI N >>> (Int32.ofInt 1 &&& 31) = nI (N / 2))) = true := by decide +kernel
theorem shr1 {N : Nat} (h : N ≤ 4000) : nI N >>> (Int32.ofInt 1 &&& 31) = nI (N / 2) := by
  have := List.all_eq_true.mp shr1_all N (List.mem_range.mpr (by omega))
  exact of_decide_eq_true this
theorem c_size {T0 MI a ea N : Nat} {m n : Int32} {f : Nat → Option Nat} {M : xM} (D : a ≠ ea) : xZ T0 MI 206 0 [some (vr (some a))] [] (pLq a ea N m n f M) = some (some (vi n), pLq a ea N m n f M) := by
  rw [bq_206_0, pL_2 D, Option.bind_some]
theorem c_check {T0 MI i n : Nat} {M : xM} (hi : i < n) (hn : n ≤ 4000) : xZ T0 MI 218 0 [some (vi (nI i)), some (vi (nI n))] [] M = some (some (vi (nI i)), M) := by
  rw [bq_218_0, bq_221_0, if_neg (nI_pos (by omega)), bq_221_4, if_pos (by rw [nI_ltI (by omega) (by omega)]; exact hi), bq_221_16, Option.bind_some]
  simp (decide := true) (disch := omega) only [bq_218_6, Option.bind_some, xasI, xasL, xasR, xin_t, cond_true, cond_false, nI_clamp, k_0, k_1, k_2, k_3, k_4, k_5, k_6, k_40, k_60, k_500, k_10000, pk_mul, nI_add, nI_e0, nI_ee, nI_leI, nI_ltI, xbool0, xbool1, xbn0, xbn1, xb_0, xb_1, reduceIte, one0, Option.isNone_none, ne_eq, not_true_eq_false, not_false_eq_true, if_true, if_false, ite_not, Bool.true_and, Bool.and_true]
theorem c_get {T0 MI a ea N i n : Nat} {m : Int32} {f : Nat → Option Nat} {M : xM} (D : a ≠ ea) (hi : i < n) (hn : n ≤ N) (hN : N ≤ 4000) : xZ T0 MI 208 0 [some (vr (some a)), some (vi (nI i))] [] (pLq a ea N m (nI n) f M) = some (some (vr (f i)), pLq a ea N m (nI n) f M) := by
  rw [bq_208_0, pL_2 D, Option.bind_some, c_check hi (by omega)]
  simp (decide := true) (disch := omega) only [bq_208_8, Option.bind_some, xasI, xasL, xasR, xin_t, cond_true, cond_false, nI_clamp, k_0, k_1, k_2, k_3, k_4, k_5, k_6, k_40, k_60, k_500, k_10000, pk_mul, nI_add, nI_e0, nI_ee, nI_leI, nI_ltI, xbool0, xbool1, xbn0, xbn1, xb_0, xb_1, reduceIte, one0, Option.isNone_none, ne_eq, not_true_eq_false, not_false_eq_true, if_true, if_false, ite_not, Bool.true_and, Bool.and_true, pL_c D]
  rw [bq_207_0, pL_1 D, Option.bind_some, Option.bind_some, pL_a]
  simp (decide := true) (disch := omega) only [bq_208_14, Option.bind_some, xasI, xasL, xasR, xin_t, cond_true, cond_false, nI_clamp, k_0, k_1, k_2, k_3, k_4, k_5, k_6, k_40, k_60, k_500, k_10000, pk_mul, nI_add, nI_e0, nI_ee, nI_leI, nI_ltI, xbool0, xbool1, xbn0, xbn1, xb_0, xb_1, reduceIte, one0, Option.isNone_none, ne_eq, not_true_eq_false, not_false_eq_true, if_true, if_false, ite_not, Bool.true_and, Bool.and_true]
/-- the row grows -/
theorem c_grow {T0 MI a ea N n : Nat} {m : Int32} {f : Nat → Option Nat} {M : xM} (D : a ≠ ea) (hn : n = N) (hN : N ≤ 2500) (h0 : 0 < N) (hb : a < M.1 ∧ ea < M.1) (hf : ∀ i, i < N → xmayR M 3 (f i) = true) (hne : ∀ i v, i < N → f i = some v → v < M.1) (hfa : ∀ i, i < N → f i ≠ some a ∧ f i ≠ some ea) : xZ T0 MI 205 0 [some (vr (some a))] [] (pLq a ea N m (nI n) f M) = some (some (vr (some M.1)), pLq a M.1 (N + max 1 (N / 2)) m (nI n) (va_cpy f (fun _ => none) 0 0 N) (M.1 + 1, M.2.1 + (N + max 1 (N / 2)), (pLq a ea N m (nI n) f M).2.2)) := by
  subst hn
  have hN2 : n / 2 ≤ n := Nat.div_le_self _ _
  have hm1 : (pLq a ea n m (nI n) f M).1 = M.1 := rfl
  have d1 : ea ≠ M.1 := by omega
  have D' : a ≠ M.1 := by omega
  have nl : xZ T0 MI 219 0 [some (vi (nI n)), some (vi (nI (n + 1) - nI n)), some (vi (nI (n / 2))), none] [] (pLq a ea n m (nI n) f M) = some (some (vi (nI (n + max 1 (n / 2)))), pLq a ea n m (nI n) f M) := by
    have e1 : nI (n + 1) - nI n = nI 1 := by
      have := nI_add 1 n
      rw [show n + 1 = 1 + n by omega, ← this]
      exact Int32.add_sub_cancel _ _
    have e2 : (if nI 1 < nI (n / 2) then nI (n / 2) else nI 1) = nI (max 1 (n / 2)) := by
      by_cases h : 1 < n / 2
      · rw [if_pos (by rw [nI_ltI (by omega) (by omega)]; exact h), show max 1 (n / 2) = n / 2 by omega]
      · rw [if_neg (by rw [nI_ltI (by omega) (by omega)]; exact h), show max 1 (n / 2) = 1 by omega]
    rw [e1, bq_219_0, e2, nI_add, if_neg (by
      intro h
      have h2 : nI (n + max 1 (n / 2)) ≤ nI 0 := h
      rw [nI_leI (by omega) (by omega)] at h2
      omega), bq_219_13, if_neg (by
      intro h
      have h2 : nI 2147483639 < nI (n + max 1 (n / 2)) := h
      rw [nI_ltI (by omega) (by omega)] at h2
      omega), bq_219_19]
  generalize hN' : n + max 1 (n / 2) = N' at *
  have hnew : xnewA (pLq a ea n m (nI n) f M) 3 (nI N') = some (xset (M.1 + 1, M.2.1 + N', (pLq a ea n m (nI n) f M).2.2) M.1 (.inl (3, N', .inr (.inr (fun _ => none))))) := by
    unfold xnewA
    have c1 : ((!decide (nI N' < 0)) && Nat.ble (nI N').toNatClampNeg 1000000) = true := by
      rw [nI_clamp (by omega)]
      have : ¬ nI N' < 0 := nI_pos (by omega)
      simp [this]
      omega
    rw [c1, nI_clamp (by omega)]
    rfl
  have hea : (xset (M.1 + 1, M.2.1 + N', (pLq a ea n m (nI n) f M).2.2) M.1 (.inl (3, N', .inr (.inr (fun _ => none))))).2.2 ea = .inl (3, n, .inr (.inr f)) := by
    rw [xset_ne _ _ d1]
    exact pL_e
  have hcp : xcopy (xset (M.1 + 1, M.2.1 + N', (pLq a ea n m (nI n) f M).2.2) M.1 (.inl (3, N', .inr (.inr (fun _ => none))))) ea (Int32.ofInt 0) M.1 (Int32.ofInt 0) (nI n) = some (xset (M.1 + 1, M.2.1 + N', (pLq a ea n m (nI n) f M).2.2) M.1 (.inl (3, N', .inr (.inr (va_cpy f (fun _ => none) 0 0 n))))) := by
    unfold xcopy
    rw [hea, xset_at]
    dsimp only
    have ok : xcpyOk (Int32.ofInt 0) (Int32.ofInt 0) (nI n) n N' = true := by
      unfold xcpyOk
      have : ¬ nI n < 0 := nI_pos (by omega)
      rw [nI_clamp (by omega)]
      simp [this]
      omega
    have ok2 : xcpyR (xset (M.1 + 1, M.2.1 + N', (pLq a ea n m (nI n) f M).2.2) M.1 (.inl (3, N', .inr (.inr (fun _ => none))))) 3 f (Int32.ofInt 0).toNatClampNeg (nI n).toNatClampNeg = true := by
      rw [nI_clamp (by omega)]
      unfold xcpyR
      rw [List.all_eq_true]
      intro i hi
      have hi := List.mem_range.mp hi
      rw [show (Int32.ofInt 0).toNatClampNeg + i = i by rw [show (Int32.ofInt 0).toNatClampNeg = 0 from rfl]; omega]
      have h1 := hf i hi
      cases hv : f i with
      | none => rfl
      | some v =>
        rw [hv] at h1
        have v1 : v ≠ M.1 := by have := hne i v hi hv; omega
        have v2 : v ≠ a := fun e => (hfa i hi).1 (by rw [hv, e])
        have v3 : v ≠ ea := fun e => (hfa i hi).2 (by rw [hv, e])
        rw [may_c (M := M)]
        · exact h1
        · rw [xset_ne _ _ v1]
          exact pL_out v2 v3
    rw [ok, ok2, show Nat.blt 0 n = true by simp [Nat.blt]; omega, show Nat.blt 0 N' = true by simp [Nat.blt]; omega, xset_xset, nI_clamp (by omega)]
    rfl
  have hoa : xisOA (pLq a ea n m (nI n) f M) ea = true := by
    unfold xisOA
    rw [pL_e]
    show (Nat.beq 3 3 && Nat.blt 0 n) = true
    rw [show Nat.blt 0 n = true by simp [Nat.blt]; omega]
    rfl
  have hl2 : xlenA (xset (M.1 + 1, M.2.1 + N', (pLq a ea n m (nI n) f M).2.2) M.1 (.inl (3, N', .inr (.inr (fun _ => none))))) ea = some (nI n) := lenR hea rfl
  have hfin : xput (xset (M.1 + 1, M.2.1 + N', (pLq a ea n m (nI n) f M).2.2) M.1 (.inl (3, N', .inr (.inr (va_cpy f (fun _ => none) 0 0 n))))) a 13 1 (vr (some M.1)) = some (pLq a M.1 N' m (nI n) (va_cpy f (fun _ => none) 0 0 n) (M.1 + 1, M.2.1 + N', (pLq a ea n m (nI n) f M).2.2)) := by
    have ho : (xset (M.1 + 1, M.2.1 + N', (pLq a ea n m (nI n) f M).2.2) M.1 (.inl (3, N', .inr (.inr (va_cpy f (fun _ => none) 0 0 n))))).2.2 a = .inr (13, [vi m, vr (some ea), vi (nI n)]) := by
      rw [xset_ne _ _ D']
      exact pL_o D
    rw [pV ho 1 rfl]
    unfold pLq
    rw [xset_comm _ _ _ (Ne.symm D')]
    rfl
  rw [bq_205_0, pL_2 D, Option.bind_some, pL_c D, cond_true, nI_s, bq_204_0, pL_1 D, Option.bind_some, Option.bind_some, pL_l, Option.bind_some, if_pos (show (0 : Int32) < nI n by
    have h2 : nI 0 < nI n := by rw [nI_ltI (by omega) (by omega)]; exact h0
    exact h2), bq_204_20, shr1 (by omega), nl]
  simp (decide := true) (disch := omega) only [bq_204_30, Option.bind_some, xasI, xasL, xasR, xin_t, cond_true, cond_false, nI_clamp, k_0, k_1, k_2, k_3, k_4, k_5, k_6, k_40, k_60, k_500, k_10000, pk_mul, nI_add, nI_e0, nI_ee, nI_leI, nI_ltI, xbool0, xbool1, xbn0, xbn1, xb_0, xb_1, reduceIte, one0, Option.isNone_none, ne_eq, not_true_eq_false, not_false_eq_true, if_true, if_false, ite_not, Bool.true_and, Bool.and_true, pL_1 D]
  rw [bq_215_0, Option.bind_some, hoa, Bool.true_and, cond_true, bq_216_0, if_pos rfl, bq_216_6, hnew, Option.bind_some, hm1, bq_216_24, Option.bind_some, hl2, Option.bind_some, Option.bind_some, if_neg (show ¬ nI N' < nI n by rw [nI_ltI (by omega) (by omega)]; omega), hcp]
  simp (decide := true) (disch := omega) only [bq_215_9, Option.bind_some, xasI, xasL, xasR, xin_t, cond_true, cond_false, nI_clamp, k_0, k_1, k_2, k_3, k_4, k_5, k_6, k_40, k_60, k_500, k_10000, pk_mul, nI_add, nI_e0, nI_ee, nI_leI, nI_ltI, xbool0, xbool1, xbn0, xbn1, xb_0, xb_1, reduceIte, one0, Option.isNone_none, ne_eq, not_true_eq_false, not_false_eq_true, if_true, if_false, ite_not, Bool.true_and, Bool.and_true]
  rw [bq_204_40, hfin]
  simp (decide := true) (disch := omega) only [bq_205_10, Option.bind_some, xasI, xasL, xasR, xin_t, cond_true, cond_false, nI_clamp, k_0, k_1, k_2, k_3, k_4, k_5, k_6, k_40, k_60, k_500, k_10000, pk_mul, nI_add, nI_e0, nI_ee, nI_leI, nI_ltI, xbool0, xbool1, xbn0, xbn1, xb_0, xb_1, reduceIte, one0, Option.isNone_none, ne_eq, not_true_eq_false, not_false_eq_true, if_true, if_false, ite_not, Bool.true_and, Bool.and_true]
theorem c_grow0 {T0 MI a N : Nat} {m : Int32} {f : Nat → Option Nat} {M : xM} (D : a ≠ T0) (hN : N = 0) (hb : a < M.1 ∧ T0 < M.1) : xZ T0 MI 205 0 [some (vr (some a))] [] (pLq a T0 N m (nI 0) f M) = some (some (vr (some M.1)), pLq a M.1 10 m (nI 0) (fun _ => none) (M.1 + 1, M.2.1 + 10, (pLq a T0 N m (nI 0) f M).2.2)) := by
  subst hN
  have D' : a ≠ M.1 := by omega
  have hnew : xnewA (pLq a T0 0 m (nI 0) f M) 3 (Int32.ofInt 10) = some (xset (M.1 + 1, M.2.1 + 10, (pLq a T0 0 m (nI 0) f M).2.2) M.1 (.inl (3, 10, .inr (.inr (fun _ => none))))) := rfl
  have hfin : xput (xset (M.1 + 1, M.2.1 + 10, (pLq a T0 0 m (nI 0) f M).2.2) M.1 (.inl (3, 10, .inr (.inr (fun _ => none))))) a 13 1 (vr (some M.1)) = some (pLq a M.1 10 m (nI 0) (fun _ => none) (M.1 + 1, M.2.1 + 10, (pLq a T0 0 m (nI 0) f M).2.2)) := by
    have ho : (xset (M.1 + 1, M.2.1 + 10, (pLq a T0 0 m (nI 0) f M).2.2) M.1 (.inl (3, 10, .inr (.inr (fun _ => none))))).2.2 a = .inr (13, [vi m, vr (some T0), vi (nI 0)]) := by
      rw [xset_ne _ _ D']
      exact pL_o D
    rw [pV ho 1 rfl]
    unfold pLq
    rw [xset_comm _ _ _ (Ne.symm D')]
    rfl
  rw [bq_205_0, pL_2 D, Option.bind_some, pL_c D, cond_true, bq_204_0, pL_1 D, Option.bind_some, Option.bind_some, pL_l, Option.bind_some, if_neg (by decide), bq_204_10, pL_1 D, Option.bind_some, if_pos rfl, bq_204_45, if_neg (by decide), hnew, Option.bind_some]
  have hm1 : (pLq a T0 0 m (nI 0) f M).1 = M.1 := rfl
  rw [hm1, hfin]
  simp (decide := true) (disch := omega) only [bq_205_10, Option.bind_some, xasI, xasL, xasR, xin_t, cond_true, cond_false, nI_clamp, k_0, k_1, k_2, k_3, k_4, k_5, k_6, k_40, k_60, k_500, k_10000, pk_mul, nI_add, nI_e0, nI_ee, nI_leI, nI_ltI, xbool0, xbool1, xbn0, xbn1, xb_0, xb_1, reduceIte, one0, Option.isNone_none, ne_eq, not_true_eq_false, not_false_eq_true, if_true, if_false, ite_not, Bool.true_and, Bool.and_true]
/-! ArrayList as an object: its elements -/
def oList (T0 : Nat) (M : xM) (ow : xOw) (g pt a : Nat) (es : List Nat) : Prop := ∃ (ea N : Nat) (m : Int32) (f : Nat → Option Nat), M.2.2 a = .inr (13, [vi m, vr (some ea), vi (nI es.length)]) ∧ M.2.2 ea = .inl (3, N, .inr (.inr f)) ∧ (es.length ≤ N ∧ N ≤ 4000) ∧ (∀ j (hj : j < es.length), f j = some es[j]) ∧ ow a = (g, pt) ∧ (a < M.1 ∧ ea < M.1) ∧ ((ea = T0 ∧ N = 0 ∧ (ow ea).1 = 8) ∨ (0 < N ∧ ow ea = (g, pt + 1)))
theorem oList_f {T0 : Nat} {P : Nat × Nat → Prop} {x y : Nat} {ow ow' : xOw} {M M' : xM} {g pt a : Nat} {es : List Nat} (h : oList T0 M ow g pt a es) (hs : stp P x y ow M ow' M') (hP : ∀ t, inP g pt (pt + 1) t → P t) (h8 : ∀ t : Nat × Nat, t.1 = 8 → P t) : oList T0 M' ow' g pt a es := by
  obtain ⟨ea, N, m, f, h1, h2, h3, h4, o1, b, h5⟩ := h
  obtain ⟨s1, s2, s3, s4⟩ := hs
  refine ⟨ea, N, m, f, ?_, ?_, h3, h4, ?_, ⟨by have := b.1; omega, by have := b.2; omega⟩, ?_⟩
  · rw [(s4 a b.1).2 (hP _ (by rw [o1]; exact inP_i (Nat.le_refl _) (Nat.le_succ _)))]; exact h1
  · rcases h5 with h5 | h5
    · rw [(s4 ea b.2).2 (h8 _ h5.2.2)]; exact h2
    · rw [(s4 ea b.2).2 (hP _ (by rw [h5.2]; exact inP_i (Nat.le_succ _) (Nat.le_refl _)))]; exact h2
  · rw [(s4 a b.1).1]; exact o1
  · rw [(s4 ea b.2).1]; exact h5
theorem oList_d {T0 : Nat} {M : xM} {ow : xOw} {g pt a ea N : Nat} (hg : g ≠ 8) (o1 : ow a = (g, pt)) (h5 : (ea = T0 ∧ N = 0 ∧ (ow ea).1 = 8) ∨ (0 < N ∧ ow ea = (g, pt + 1))) : a ≠ ea := by
  intro e
  rcases h5 with h5 | h5
  · rw [← e, o1] at h5
    exact hg h5.2.2
  · rw [← e, o1] at h5
    have := congrArg Prod.snd h5.2
    simp at this
theorem oL_size {T0 MI : Nat} {M : xM} {ow : xOw} {g pt a : Nat} {es : List Nat} (h : oList T0 M ow g pt a es) : xZ T0 MI 206 0 [some (vr (some a))] [] M = some (some (vi (nI es.length)), M) := by
  obtain ⟨ea, N, m, f, h1, h2, h3, h4, o1, b, h5⟩ := h
  rw [bq_206_0, gI h1 2 rfl, Option.bind_some]
theorem oL_get {T0 MI : Nat} {M : xM} {ow : xOw} {g pt a i : Nat} {es : List Nat} (hg : g ≠ 8) (h : oList T0 M ow g pt a es) (hi : i < es.length) : xZ T0 MI 208 0 [some (vr (some a)), some (vi (nI i))] [] M = some (some (vr (some es[i])), M) := by
  obtain ⟨ea, N, m, f, h1, h2, h3, h4, o1, b, h5⟩ := h
  have e := c_get (T0 := T0) (MI := MI) (m := m) (f := f) (M := M) (oList_d (M := M) hg o1 h5) hi h3.1 h3.2
  rw [pL_id h1 h2, h4 i hi] at e
  exact e
theorem oL_c {T0 : Nat} {M : xM} {ow : xOw} {g pt a : Nat} {es : List Nat} (h : oList T0 M ow g pt a es) : xcls M a 13 = true ∧ ow a = (g, pt) ∧ a < M.1 ∧ es.length ≤ 4000 := by
  obtain ⟨ea, N, m, f, h1, h2, h3, h4, o1, b, h5⟩ := h
  exact ⟨gC h1, o1, b.1, by have := h3.1; have := h3.2; omega⟩
theorem pLq_stp {a ea N g pt : Nat} {m n : Int32} {f : Nat → Option Nat} {M : xM} {ow : xOw} (o1 : ow a = (g, pt)) (o2 : ow ea = (g, pt + 1)) : stp (fun t => ¬ inP g pt (pt + 1) t) 0 0 ow M ow (pLq a ea N m n f M) := by
  unfold pLq
  refine stp_tr (x := 0) (y := 0) (stp_set ?_) (stp_set ?_)
  · rw [o1]; exact fun h => h (inP_i (Nat.le_refl _) (Nat.le_succ _))
  · rw [o2]; exact fun h => h (inP_i (Nat.le_succ _) (Nat.le_refl _))
theorem oL_add {T0 MI : Nat} {M : xM} {ow : xOw} {g pt a v : Nat} {es : List Nat} (hg : g ≠ 8) (h : oList T0 M ow g pt a es) (hl : es.length ≤ 2000) (hv : isObj M v) (hvb : v < M.1) (hva : v ≠ a) (hE : ∀ e ∈ es, isObj M e ∧ e < M.1 ∧ e ≠ a) : ∃ M' ow', xZ T0 MI 210 0 [some (vr (some a)), some (vr (some v))] [] M = some (some (vi 1), M') ∧ oList T0 M' ow' g pt a (es ++ [v]) ∧ stp (fun t => ¬ inP g pt (pt + 1) t) 1 (2 * es.length + 10) ow M ow' M' := by
  obtain ⟨ea, N, m, f, h1, h2, h3, h4, o1, b, h5⟩ := h
  have D : a ≠ ea := oList_d (M := M) hg o1 h5
  have hid := pL_id h1 h2
  have hca : ∀ M1 : xM, M1.2.2 a = M.2.2 a → xclsO M1 a = some 13 := fun M1 hM => gCO (hM.trans h1)
  have va : v ≠ ea := by
    obtain ⟨c, fs, e1, -⟩ := hv
    intro e
    rw [e, h2] at e1
    cases e1
  -- the element may be stored wherever objects keep their class
  have mayV : ∀ (a' ea' N' : Nat) (m' n' : Int32) (f' : Nat → Option Nat) (B : xM), a' = a → ea' ≠ a → v ≠ ea' → B.2.2 v = M.2.2 v → xmayR (pLq a' ea' N' m' n' f' B) 3 (some v) = true := by
    intro a' ea' N' m' n' f' B ha' hea' hvea hB
    subst ha'
    obtain ⟨c, fs, e1, e2⟩ := hv
    by_cases ev : v = a'
    · subst ev
      exact mayR (pL_o (Ne.symm hea')) rfl
    · refine obj_may ⟨c, fs, ?_, e2⟩
      rw [pL_out ev hvea, hB]
      exact e1
  have st1 : xZ T0 MI 210 0 [some (vr (some a)), some (vr (some v))] [] M = ((xZ T0 MI 209 0 [some (vr (some a)), some (vr (some v)), some (vr (some ea)), some (vi (nI es.length))] [] (pLq a ea N (m + Int32.ofInt 1) (nI es.length) f M)).bind fun z_5 => bif z_5.1.isNone then xZ T0 MI 210 23 [some (vr (some a)), some (vr (some v))] [] z_5.2 else none) := by
    have e0 := pL_pm (N := N) (m := m) (n := nI es.length) (f := f) (M := M) D (m + Int32.ofInt 1)
    rw [hid] at e0
    rw [bq_210_0, gI h1 0 rfl, Option.bind_some, e0, Option.bind_some, pL_1 D, Option.bind_some, pL_2 D, Option.bind_some, pL_c D, cond_true]
  -- the last part: from 209.11 on
  have last : ∀ (ea' N' : Nat) (m' : Int32) (f' : Nat → Option Nat) (B : xM), a ≠ ea' → v ≠ ea' → B.2.2 v = M.2.2 v → es.length < N' → N' ≤ 4000 → xZ T0 MI 209 11 [some (vr (some a)), some (vr (some v)), some (vr (some ea')), some (vi (nI es.length))] [] (pLq a ea' N' m' (nI es.length) f' B) = some (none, pLq a ea' N' m' (nI (es.length + 1)) (va_up f' es.length (some v)) B) := by
    intro ea' N' m' f' B hD hv2 hB hlt hN'
    rw [bq_209_11, Option.bind_some, pL_s hlt hN' (mayV a ea' N' m' _ f' B rfl (Ne.symm hD) hv2 hB), Option.bind_some, pL_pn hD, Option.bind_some, nI_s]
  have els : ∀ (f' : Nat → Option Nat), (∀ j (hj : j < es.length), f' j = some es[j]) → ∀ j (hj : j < (es ++ [v]).length), va_up f' es.length (some v) j = some (es ++ [v])[j] := by
    intro f' hf' j hj
    rw [List.length_append, List.length_singleton] at hj
    by_cases e : j = es.length
    · subst e
      rw [va_up_self]
      simp
    · rw [va_up_ne _ _ e, hf' j (by omega)]
      rw [List.getElem_append_left]
  rw [st1]
  clear st1
  generalize m + Int32.ofInt 1 = m1
  by_cases eN : es.length = N
  · rcases h5 with h5 | h5
    · -- the empty row
      obtain ⟨e1, e2, e3⟩ := h5
      subst e1
      have es0 : es.length = 0 := by omega
      have gr := c_grow0 (T0 := ea) (MI := MI) (a := a) (N := N) (m := m1) (f := f) (M := M) D e2 b
      have D' : a ≠ M.1 := by have := b.1; omega
      have hBv : ((M.1 + 1, M.2.1 + 10, (pLq a ea N m1 (nI 0) f M).2.2) : xM).2.2 v = M.2.2 v := pL_out hva va
      have o' : (va_up ow M.1 (g, pt + 1)) a = (g, pt) := by rw [va_up_ne _ _ D']; exact o1
      refine ⟨pLq a M.1 10 m1 (nI (es.length + 1)) (va_up (fun _ => none) es.length (some v)) (M.1 + 1, M.2.1 + 10, (pLq a ea N m1 (nI 0) f M).2.2), va_up ow M.1 (g, pt + 1), ?_, ⟨M.1, 10, m1, va_up (fun _ => none) es.length (some v), ?_, pL_e, ⟨by rw [List.length_append, List.length_singleton]; omega, by omega⟩, els _ (fun j hj => by omega), o', ⟨Nat.lt_succ_of_lt b.1, Nat.lt_succ_self _⟩, Or.inr ⟨by omega, va_up_self _ _ _⟩⟩, ?_⟩
      · have l2 := last M.1 10 m1 (fun _ => none) (M.1 + 1, M.2.1 + 10, (pLq a ea N m1 (nI 0) f M).2.2) D' (by omega) hBv (by omega) (by omega)
        rw [es0] at l2 ⊢
        rw [bq_209_0, Option.bind_some, pL_l, Option.bind_some, if_pos (by rw [e2]), bq_209_6, pL_c D, cond_true, gr]
        simp (decide := true) (disch := omega) only [bq_209_10, Option.bind_some, xasI, xasL, xasR, xin_t, cond_true, cond_false, nI_clamp, k_0, k_1, k_2, k_3, k_4, k_5, k_6, k_40, k_60, k_500, k_10000, pk_mul, nI_add, nI_e0, nI_ee, nI_leI, nI_ltI, xbool0, xbool1, xbn0, xbn1, xb_0, xb_1, reduceIte, one0, Option.isNone_none, ne_eq, not_true_eq_false, not_false_eq_true, if_true, if_false, ite_not, Bool.true_and, Bool.and_true]
        rw [l2]
        simp (decide := true) (disch := omega) only [bq_210_23, Option.bind_some, xasI, xasL, xasR, xin_t, cond_true, cond_false, nI_clamp, k_0, k_1, k_2, k_3, k_4, k_5, k_6, k_40, k_60, k_500, k_10000, pk_mul, nI_add, nI_e0, nI_ee, nI_leI, nI_ltI, xbool0, xbool1, xbn0, xbn1, xb_0, xb_1, reduceIte, one0, Option.isNone_none, ne_eq, not_true_eq_false, not_false_eq_true, if_true, if_false, ite_not, Bool.true_and, Bool.and_true]
        rfl
      · rw [List.length_append, List.length_singleton]
        exact pL_o D'
      · refine ⟨Nat.le_succ _, ⟨Nat.le_refl _, fun hb => bnd_new hb (bnd_g hb b.1 o1)⟩, ?_, fun z hz => ⟨va_up_ne _ _ (by omega), fun hP => ?_⟩⟩
        · show M.2.1 + 10 ≤ M.2.1 + (2 * es.length + 10)
          omega
        · have za : z ≠ a := fun e => hP (by rw [e, o1]; exact inP_i (Nat.le_refl _) (Nat.le_succ _))
          rw [pL_out za (by omega)]
          by_cases ez : z = ea
          · rw [ez]; exact pL_e.trans h2.symm
          · exact pL_out za ez
    · have fm : ∀ i, i < N → ∃ e ∈ es, f i = some e := fun i hi => ⟨es[i]'(by omega), List.getElem_mem _, h4 i (by omega)⟩
      have gr := c_grow (T0 := T0) (MI := MI) (a := a) (ea := ea) (N := N) (n := es.length) (m := m1) (f := f) (M := M) D eN (by omega) h5.1 b (fun i hi => by
        obtain ⟨e, he, hfe⟩ := fm i hi
        rw [hfe]
        exact obj_may (hE e he).1) (fun i w hi hw => by
        obtain ⟨e, he, hfe⟩ := fm i hi
        rw [hfe] at hw
        cases hw
        exact (hE _ he).2.1) (fun i hi => by
        obtain ⟨e, he, hfe⟩ := fm i hi
        rw [hfe]
        refine ⟨fun h => ?_, fun h => ?_⟩
        · cases h
          exact (hE _ he).2.2 rfl
        · cases h
          obtain ⟨c, fs, e1, -⟩ := (hE _ he).1
          rw [h2] at e1
          cases e1)
      have hd2 : N / 2 ≤ N := Nat.div_le_self _ _
      have D' : a ≠ M.1 := by have := b.1; omega
      have hBv : ((M.1 + 1, M.2.1 + (N + max 1 (N / 2)), (pLq a ea N m1 (nI es.length) f M).2.2) : xM).2.2 v = M.2.2 v := pL_out hva va
      have o' : (va_up ow M.1 (g, pt + 1)) a = (g, pt) := by rw [va_up_ne _ _ D']; exact o1
      refine ⟨pLq a M.1 (N + max 1 (N / 2)) m1 (nI (es.length + 1)) (va_up (va_cpy f (fun _ => none) 0 0 N) es.length (some v)) (M.1 + 1, M.2.1 + (N + max 1 (N / 2)), (pLq a ea N m1 (nI es.length) f M).2.2), va_up ow M.1 (g, pt + 1), ?_, ⟨M.1, N + max 1 (N / 2), m1, va_up (va_cpy f (fun _ => none) 0 0 N) es.length (some v), ?_, pL_e, ⟨by rw [List.length_append, List.length_singleton]; omega, by omega⟩, els _ (fun j hj => by rw [cpy_at _ _ (by omega)]; exact h4 j hj), o', ⟨Nat.lt_succ_of_lt b.1, Nat.lt_succ_self _⟩, Or.inr ⟨by omega, va_up_self _ _ _⟩⟩, ?_⟩
      · have l2 := last M.1 (N + max 1 (N / 2)) m1 (va_cpy f (fun _ => none) 0 0 N) (M.1 + 1, M.2.1 + (N + max 1 (N / 2)), (pLq a ea N m1 (nI es.length) f M).2.2) D' (by omega) hBv (by omega) (by omega)
        rw [bq_209_0, Option.bind_some, pL_l, Option.bind_some, if_pos (by rw [eN]), bq_209_6, pL_c D, cond_true, gr]
        simp (decide := true) (disch := omega) only [bq_209_10, Option.bind_some, xasI, xasL, xasR, xin_t, cond_true, cond_false, nI_clamp, k_0, k_1, k_2, k_3, k_4, k_5, k_6, k_40, k_60, k_500, k_10000, pk_mul, nI_add, nI_e0, nI_ee, nI_leI, nI_ltI, xbool0, xbool1, xbn0, xbn1, xb_0, xb_1, reduceIte, one0, Option.isNone_none, ne_eq, not_true_eq_false, not_false_eq_true, if_true, if_false, ite_not, Bool.true_and, Bool.and_true]
        rw [l2]
        simp (decide := true) (disch := omega) only [bq_210_23, Option.bind_some, xasI, xasL, xasR, xin_t, cond_true, cond_false, nI_clamp, k_0, k_1, k_2, k_3, k_4, k_5, k_6, k_40, k_60, k_500, k_10000, pk_mul, nI_add, nI_e0, nI_ee, nI_leI, nI_ltI, xbool0, xbool1, xbn0, xbn1, xb_0, xb_1, reduceIte, one0, Option.isNone_none, ne_eq, not_true_eq_false, not_false_eq_true, if_true, if_false, ite_not, Bool.true_and, Bool.and_true]
        rfl
      · rw [List.length_append, List.length_singleton]
        exact pL_o D'
      · refine ⟨Nat.le_succ _, ⟨Nat.le_refl _, fun hb => bnd_new hb (bnd_g hb b.1 o1)⟩, ?_, fun z hz => ⟨va_up_ne _ _ (by omega), fun hP => ?_⟩⟩
        · show M.2.1 + (N + max 1 (N / 2)) ≤ M.2.1 + (2 * es.length + 10)
          omega
        · have za : z ≠ a := fun e => hP (by rw [e, o1]; exact inP_i (Nat.le_refl _) (Nat.le_succ _))
          rw [pL_out za (by omega)]
          by_cases ez : z = ea
          · rw [ez]; exact pL_e.trans h2.symm
          · exact pL_out za ez
  · have h5' : 0 < N ∧ ow ea = (g, pt + 1) := by
      rcases h5 with h5 | h5
      · omega
      · exact h5
    refine ⟨pLq a ea N m1 (nI (es.length + 1)) (va_up f es.length (some v)) M, ow, ?_, ⟨ea, N, m1, va_up f es.length (some v), ?_, pL_e, ⟨by rw [List.length_append, List.length_singleton]; omega, h3.2⟩, els _ h4, o1, b, Or.inr h5'⟩, stp_w (pLq_stp o1 h5'.2) (fun _ h => h) (by omega) (by omega)⟩
    · have l2 := last ea N m1 f M D va rfl (by omega) h3.2
      rw [bq_209_0, Option.bind_some, pL_l, Option.bind_some, if_neg (by rw [nI_ee (by omega) (by omega)]; exact eN), l2]
      simp (decide := true) (disch := omega) only [bq_210_23, Option.bind_some, xasI, xasL, xasR, xin_t, cond_true, cond_false, nI_clamp, k_0, k_1, k_2, k_3, k_4, k_5, k_6, k_40, k_60, k_500, k_10000, pk_mul, nI_add, nI_e0, nI_ee, nI_leI, nI_ltI, xbool0, xbool1, xbn0, xbn1, xb_0, xb_1, reduceIte, one0, Option.isNone_none, ne_eq, not_true_eq_false, not_false_eq_true, if_true, if_false, ite_not, Bool.true_and, Bool.and_true]
      rfl
    · rw [List.length_append, List.length_singleton]
      exact pL_o D
