/-! Kept: become, forget, total -/
theorem cpy_at {α : Type} (f g : Nat → α) {j n : Nat} (h : j < n) : va_cpy f g 0 0 n j = f j := by
  unfold va_cpy
  simp [h]
theorem lenA {M : xM} {a n : Nat} {f : Nat → Int32} (h : M.2.2 a = .inl (0, n, .inl f)) : xlenA M a = some (Int32.ofNat n) := by
  unfold xlenA
  rw [h]
  rfl
theorem lenL {M : xM} {a n : Nat} {f : Nat → Int64} (h : M.2.2 a = .inl (1, n, .inr (.inl f))) : xlenA M a = some (Int32.ofNat n) := by
  unfold xlenA
  rw [h]
  rfl
theorem lenR {M : xM} {a t n : Nat} {f : Nat → Option Nat} (h : M.2.2 a = .inl (t, n, .inr (.inr f))) (ht : xtR t = true) : xlenA M a = some (Int32.ofNat n) := by
  unfold xlenA
  rw [h]
  dsimp only
  rw [ht]
  rfl
theorem cpyI {M : xM} {a b n0 n1 : Nat} {f g : Nat → Int32} {m : Int32} (h0 : M.2.2 a = .inl (0, n0, .inl f)) (h1 : M.2.2 b = .inl (0, n1, .inl g)) (hn : Nat.blt 0 n1 = true) (hok : xcpyOk 0 0 m n0 n1 = true) : xcopy M a 0 b 0 m = some (xset M b (.inl (0, n1, .inl (va_cpy f g 0 0 m.toNatClampNeg)))) := by
  unfold xcopy
  rw [h0, h1]
  dsimp only
  rw [hn, hok]
  rfl
theorem cpyL {M : xM} {a b n0 n1 : Nat} {f g : Nat → Int64} {m : Int32} (h0 : M.2.2 a = .inl (1, n0, .inr (.inl f))) (h1 : M.2.2 b = .inl (1, n1, .inr (.inl g))) (hn : Nat.blt 0 n1 = true) (hok : xcpyOk 0 0 m n0 n1 = true) : xcopy M a 0 b 0 m = some (xset M b (.inl (1, n1, .inr (.inl (va_cpy f g 0 0 m.toNatClampNeg))))) := by
  unfold xcopy
  rw [h0, h1]
  dsimp only
  rw [hn, hok]
  rfl
def kcp (q q' : xrho) : xrho := (va_up (va_up (va_up q.1 34 (va_cpy (q'.1 34) (q.1 34) 0 0 6)) 35 (va_cpy (q'.1 35) (q.1 35) 0 0 24)) 36 (va_cpy (q'.1 36) (q.1 36) 0 0 24), va_up q.2 37 (va_cpy (q'.2 37) (q.2 37) 0 0 24))
theorem kcp_34 (q q' : xrho) : (kcp q q').1 34 = va_cpy (q'.1 34) (q.1 34) 0 0 6 := by
  unfold kcp
  dsimp only
  rw [va_up_ne _ _ (by decide), va_up_ne _ _ (by decide), va_up_self]
theorem kcp_35 (q q' : xrho) : (kcp q q').1 35 = va_cpy (q'.1 35) (q.1 35) 0 0 24 := by
  unfold kcp
  dsimp only
  rw [va_up_ne _ _ (by decide), va_up_self]
theorem kcp_36 (q q' : xrho) : (kcp q q').1 36 = va_cpy (q'.1 36) (q.1 36) 0 0 24 := by
  unfold kcp
  dsimp only
  rw [va_up_self]
theorem kcp_37 (q q' : xrho) : (kcp q q').2 37 = va_cpy (q'.2 37) (q.2 37) 0 0 24 := by
  unfold kcp
  dsimp only
  rw [va_up_self]
theorem CK_kcp {q q' : xrho} {c : Nat} {k : KW} (hc : c < 6) (h : CK q' c k) : CK (kcp q q') c k := CK_c h (by rw [kcp_34, cpy_at _ _ hc]) (fun j hj => ⟨by rw [kcp_35, cpy_at _ _ (by omega)], by rw [kcp_37, cpy_at _ _ (by omega)], by rw [kcp_36, cpy_at _ _ (by omega)]⟩)
theorem c_become {T0 MI a s c v g a' s' c' v' g' : Nat} {q q' : xrho} {M : xM} (D : nd5 a s c v g) (ha : M.2.2 a' = .inr (4, [vr (some s'), vr (some c'), vr (some v'), vr (some g')])) (hs : M.2.2 s' = .inl (0, 6, .inl (q'.1 34))) (hcc : M.2.2 c' = .inl (0, 24, .inl (q'.1 35))) (hv : M.2.2 v' = .inl (1, 24, .inr (.inl (q'.2 37)))) (hg : M.2.2 g' = .inl (0, 24, .inl (q'.1 36))) (N : ∀ x, (x = a' ∨ x = s' ∨ x = c' ∨ x = v' ∨ x = g') → x ≠ a ∧ x ≠ s ∧ x ≠ c ∧ x ≠ v ∧ x ≠ g) : xZ T0 MI 40 0 [some (vr (some a)), some (vr (some a'))] [] (pKq a s c v g q M) = some (none, pKq a s c v g (kcp q q') M) := by
  have N1 := N a' (by simp)
  have N2 := N s' (by simp)
  have N3 := N c' (by simp)
  have N4 := N v' (by simp)
  have N5 := N g' (by simp)
  have o : ∀ z : xrho, (pKq a s c v g z M).2.2 a' = .inr (4, [vr (some s'), vr (some c'), vr (some v'), vr (some g')]) := fun z => by rw [pK_out N1.1 N1.2.1 N1.2.2.1 N1.2.2.2.1 N1.2.2.2.2]; exact ha
  have o1 : ∀ z : xrho, (pKq a s c v g z M).2.2 s' = .inl (0, 6, .inl (q'.1 34)) := fun z => by rw [pK_out N2.1 N2.2.1 N2.2.2.1 N2.2.2.2.1 N2.2.2.2.2]; exact hs
  have o2 : ∀ z : xrho, (pKq a s c v g z M).2.2 c' = .inl (0, 24, .inl (q'.1 35)) := fun z => by rw [pK_out N3.1 N3.2.1 N3.2.2.1 N3.2.2.2.1 N3.2.2.2.2]; exact hcc
  have o3 : ∀ z : xrho, (pKq a s c v g z M).2.2 v' = .inl (1, 24, .inr (.inl (q'.2 37))) := fun z => by rw [pK_out N4.1 N4.2.1 N4.2.2.1 N4.2.2.2.1 N4.2.2.2.2]; exact hv
  have o4 : ∀ z : xrho, (pKq a s c v g z M).2.2 g' = .inl (0, 24, .inl (q'.1 36)) := fun z => by rw [pK_out N5.1 N5.2.1 N5.2.2.1 N5.2.2.2.1 N5.2.2.2.2]; exact hg
  have c1 : ∀ z : xrho, xcopy (pKq a s c v g z M) s' (Int32.ofInt 0) s (Int32.ofInt 0) (Int32.ofNat 6) = some (pKq a s c v g (va_up z.1 34 (va_cpy (q'.1 34) (z.1 34) 0 0 6), z.2) M) := by
    intro z
    refine (cpyI (o1 z) (pK_s D) rfl (by decide)).trans ?_
    unfold pKq
    rw [xset_comm _ _ _ (Ne.symm D.2.1.2.2), xset_comm _ _ _ (Ne.symm D.2.1.2.1), xset_comm _ _ _ (Ne.symm D.2.1.1), xset_xset]
    rfl
  have c2 : ∀ z : xrho, xcopy (pKq a s c v g z M) c' (Int32.ofInt 0) c (Int32.ofInt 0) (Int32.ofNat 24) = some (pKq a s c v g (va_up z.1 35 (va_cpy (q'.1 35) (z.1 35) 0 0 24), z.2) M) := by
    intro z
    refine (cpyI (o2 z) (pK_cc D) rfl (by decide)).trans ?_
    unfold pKq
    rw [xset_comm _ _ _ (Ne.symm D.2.2.1.2), xset_comm _ _ _ (Ne.symm D.2.2.1.1), xset_xset]
    rfl
  have c3 : ∀ z : xrho, xcopy (pKq a s c v g z M) v' (Int32.ofInt 0) v (Int32.ofInt 0) (Int32.ofNat 24) = some (pKq a s c v g (z.1, va_up z.2 37 (va_cpy (q'.2 37) (z.2 37) 0 0 24)) M) := by
    intro z
    refine (cpyL (o3 z) (pK_v D) rfl (by decide)).trans ?_
    unfold pKq
    rw [xset_comm _ _ _ (Ne.symm D.2.2.2), xset_xset]
    rfl
  have c4 : ∀ z : xrho, xcopy (pKq a s c v g z M) g' (Int32.ofInt 0) g (Int32.ofInt 0) (Int32.ofNat 24) = some (pKq a s c v g (va_up z.1 36 (va_cpy (q'.1 36) (z.1 36) 0 0 24), z.2) M) := by
    intro z
    refine (cpyI (o4 z) pK_g rfl (by decide)).trans ?_
    unfold pKq
    rw [xset_xset]
    rfl
  have g1 := fun z => gR (o z) 0 (x := some s') rfl
  have g2 := fun z => gR (o z) 1 (x := some c') rfl
  have g3 := fun z => gR (o z) 2 (x := some v') rfl
  have g4 := fun z => gR (o z) 3 (x := some g') rfl
  have l1 : ∀ z : xrho, xlenA (pKq a s c v g z M) s = some (Int32.ofNat 6) := fun z => lenA (pK_s D)
  have l2 : ∀ z : xrho, xlenA (pKq a s c v g z M) c = some (Int32.ofNat 24) := fun z => lenA (pK_cc D)
  have l3 : ∀ z : xrho, xlenA (pKq a s c v g z M) v = some (Int32.ofNat 24) := fun z => lenL (pK_v D)
  have l4 : ∀ z : xrho, xlenA (pKq a s c v g z M) g = some (Int32.ofNat 24) := fun z => lenA pK_g
  rw [bq_40_0]
  simp only [Option.bind_some, g1, g2, g3, g4, pK_0 D, pK_1 D, pK_2 D, pK_3 D, l1, l2, l3, l4, c1, c2, c3, c4]
  rfl
theorem c_fill {T0 MI b n : Nat} {M : xM} (hn : n ≤ 24) : ∀ m k, k + m = n → ∀ f : Nat → Int32, (∀ j, j < k → f j = 0) → M.2.2 b = .inl (0, n, .inl f) → ∃ f', (∀ j, j < n → f' j = 0) ∧ xZ T0 MI 214 5 [some (vr (some b)), some (vi 0), some (vi (nI k)), some (vi (nI n))] [] M = some (none, xset M b (.inl (0, n, .inl f'))) := by
  intro m
  induction m generalizing M with
  | zero =>
    intro k hk f hf h
    refine ⟨f, fun j hj => hf j (by omega), ?_⟩
    rw [bq_214_5, if_pos (by rw [nI_leI (by omega) (by omega)]; omega), bq_214_20, xset_id h]
  | succ m ih =>
    intro k hk f hf h
    obtain ⟨f', h1, h2⟩ := ih (M := xset M b (.inl (0, n, .inl (upd f k 0)))) (k + 1) (by omega) (upd f k 0) (fun j hj => by
      unfold upd
      by_cases e : j = k
      · rw [if_pos e]
      · rw [if_neg e]; exact hf j (by omega)) (xset_at _ _ _)
    refine ⟨f', h1, ?_⟩
    rw [xset_xset] at h2
    rw [bq_214_5, if_neg (by rw [nI_leI (by omega) (by omega)]; omega), bq_214_10, Option.bind_some, sI h]
    simp (decide := true) (disch := omega) only [Option.bind_some, xasI, xasL, xasR, xin_t, cond_true, cond_false, nI_clamp, k_0, k_1, k_2, k_3, k_4, k_5, k_6, k_40, k_60, k_500, k_10000, pk_mul, nI_add, nI_e0, nI_ee, nI_leI, nI_ltI, xbool0, xbool1, xbn0, xbn1, xb_0, xb_1, reduceIte, one0, Option.isNone_none, ne_eq, not_true_eq_false, not_false_eq_true, if_true, if_false, ite_not, Bool.true_and, Bool.and_true]
    exact h2
theorem c_forget {T0 MI a s c v g : Nat} {q : xrho} {M : xM} (D : nd5 a s c v g) : ∃ q', xZ T0 MI 41 0 [some (vr (some a))] [] (pKq a s c v g q M) = some (none, pKq a s c v g q' M) ∧ ∀ c, c < 6 → CK q' c [] := by
  obtain ⟨f', h1, h2⟩ := c_fill (T0 := T0) (MI := MI) (M := pKq a s c v g q M) (b := s) (n := 6) (by omega) 6 0 (by omega) (q.1 34) (fun j hj => by omega) (pK_s D)
  refine ⟨(va_up q.1 34 f', q.2), ?_, fun c hc => ?_⟩
  · rw [bq_41_0, pK_0 D, Option.bind_some, bq_214_0, Option.bind_some, lenA (pK_s D), Option.bind_some]
    have h3 : xZ T0 MI 214 5 [some (vr (some s)), some (vi (Int32.ofInt 0)), some (vi (Int32.ofInt 0)), some (vi (Int32.ofNat 6))] [] (pKq a s c v g q M) = _ := h2
    rw [h3]
    simp (decide := true) (disch := omega) only [bq_41_8, Option.bind_some, xasI, xasL, xasR, xin_t, cond_true, cond_false, nI_clamp, k_0, k_1, k_2, k_3, k_4, k_5, k_6, k_40, k_60, k_500, k_10000, pk_mul, nI_add, nI_e0, nI_ee, nI_leI, nI_ltI, xbool0, xbool1, xbn0, xbn1, xb_0, xb_1, reduceIte, one0, Option.isNone_none, ne_eq, not_true_eq_false, not_false_eq_true, if_true, if_false, ite_not, Bool.true_and, Bool.and_true]
    unfold pKq
    rw [xset_comm _ _ _ (Ne.symm D.2.1.2.2), xset_comm _ _ _ (Ne.symm D.2.1.2.1), xset_comm _ _ _ (Ne.symm D.2.1.1), xset_xset]
    rfl
  · refine ⟨?_, by simp, rfl, by simp [srt]⟩
    show va_up q.1 34 f' 34 c = _
    rw [va_up_self, h1 c hc]
    rfl
theorem c_total {T0 MI a s cc v g : Nat} {q : xrho} {M : xM} {K : Nat → KW} {o1 o2 : Option xV} (D : nd5 a s cc v g) (hK : ∀ c, c < 6 → CK q c (K c)) : xZ T0 MI 42 0 [some (vr (some a)), o1, o2] [] (pKq a s cc v g q M) = some (some (vi (nI ((K 0).length + (K 1).length + (K 2).length + (K 3).length + (K 4).length + (K 5).length))), pKq a s cc v g q M) := by
  have st : ∀ c c' x, c < 6 → c + 1 = c' → xZ T0 MI 42 4 [some (vr (some a)), some (vi (nI x)), some (vi (nI c))] [] (pKq a s cc v g q M) = xZ T0 MI 42 4 [some (vr (some a)), some (vi (nI (x + (K c).length))), some (vi (nI c'))] [] (pKq a s cc v g q M) := by
    intro c c' x hc hc'
    subst hc'
    rw [bq_42_4, if_neg (by rw [k_6, nI_leI (by omega) (by omega)]; omega)]
    simp (decide := true) (disch := omega) only [bq_42_10, Option.bind_some, xasI, xasL, xasR, xin_t, cond_true, cond_false, nI_clamp, k_0, k_1, k_2, k_3, k_4, k_5, k_6, k_40, k_60, k_500, k_10000, pk_mul, nI_add, nI_e0, nI_ee, nI_leI, nI_ltI, xbool0, xbool1, xbn0, xbn1, xb_0, xb_1, reduceIte, one0, Option.isNone_none, ne_eq, not_true_eq_false, not_false_eq_true, if_true, if_false, ite_not, Bool.true_and, Bool.and_true, pK_0 D, pK_aS D, (hK c hc).1]
  rw [bq_42_0, k_0, st 0 1 0 (by omega) rfl, st 1 2 _ (by omega) rfl, st 2 3 _ (by omega) rfl, st 3 4 _ (by omega) rfl, st 4 5 _ (by omega) rfl, st 5 6 _ (by omega) rfl, bq_42_4, if_pos (by decide), bq_42_25, Nat.zero_add]
