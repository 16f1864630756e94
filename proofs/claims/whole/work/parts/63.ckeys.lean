/-! Kept.join -/
theorem c_join_i {T0 MI a s cc v g a' s' c' v' g' c : Nat} {q' : xrho} {M : xM} {k' : KW} (D : nd5 a s cc v g) (ha : M.2.2 a' = .inr (4, [vr (some s'), vr (some c'), vr (some v'), vr (some g')])) (hs : M.2.2 s' = .inl (0, 6, .inl (q'.1 34))) (hcc : M.2.2 c' = .inl (0, 24, .inl (q'.1 35))) (hv : M.2.2 v' = .inl (1, 24, .inr (.inl (q'.2 37)))) (hg : M.2.2 g' = .inl (0, 24, .inl (q'.1 36))) (N : ∀ x, (x = a' ∨ x = s' ∨ x = c' ∨ x = v' ∨ x = g') → x ≠ a ∧ x ≠ s ∧ x ≠ cc ∧ x ≠ v ∧ x ≠ g) (hc : c < 6) (hk : CK q' c k') : ∀ m i, i + m = k'.length → ∀ (q : xrho) (k : KW), CK q c k → ∃ (q2 : xrho) (o4 : Option xV), xZ T0 MI 39 15 [some (vr (some a)), some (vr (some a')), some (vi (nI c)), some (vi (nI (4 * c))), some (vi (nI (4 * c + i)))] [] (pKq a s cc v g q M) = xZ T0 MI 39 60 [some (vr (some a)), some (vr (some a')), some (vi (nI c)), some (vi (nI (4 * c))), o4] [] (pKq a s cc v g q2 M) ∧ CK q2 c ((k'.drop i).foldl keepL k) ∧ ∀ c2 k2, c2 ≠ c → CK q c2 k2 → CK q2 c2 k2 := by
  have b := hk.2.1
  have N1 := N a' (by simp)
  have N2 := N s' (by simp)
  have N3 := N c' (by simp)
  have N4 := N v' (by simp)
  have N5 := N g' (by simp)
  have o : ∀ z : xrho, (pKq a s cc v g z M).2.2 a' = .inr (4, [vr (some s'), vr (some c'), vr (some v'), vr (some g')]) := fun z => by rw [pK_out N1.1 N1.2.1 N1.2.2.1 N1.2.2.2.1 N1.2.2.2.2]; exact ha
  have o1 : ∀ z : xrho, (pKq a s cc v g z M).2.2 s' = .inl (0, 6, .inl (q'.1 34)) := fun z => by rw [pK_out N2.1 N2.2.1 N2.2.2.1 N2.2.2.2.1 N2.2.2.2.2]; exact hs
  have o2 : ∀ z : xrho, (pKq a s cc v g z M).2.2 c' = .inl (0, 24, .inl (q'.1 35)) := fun z => by rw [pK_out N3.1 N3.2.1 N3.2.2.1 N3.2.2.2.1 N3.2.2.2.2]; exact hcc
  have o3 : ∀ z : xrho, (pKq a s cc v g z M).2.2 v' = .inl (1, 24, .inr (.inl (q'.2 37))) := fun z => by rw [pK_out N4.1 N4.2.1 N4.2.2.1 N4.2.2.2.1 N4.2.2.2.2]; exact hv
  have o4 : ∀ z : xrho, (pKq a s cc v g z M).2.2 g' = .inl (0, 24, .inl (q'.1 36)) := fun z => by rw [pK_out N5.1 N5.2.1 N5.2.2.1 N5.2.2.2.1 N5.2.2.2.2]; exact hg
  have g1 := fun z => gR (o z) 0 (x := some s') rfl
  have g2 := fun z => gR (o z) 1 (x := some c') rfl
  have g3 := fun z => gR (o z) 2 (x := some v') rfl
  have g4 := fun z => gR (o z) 3 (x := some g') rfl
  have r1 := fun z => aI (o1 z)
  have r2 := fun z => aI (o2 z)
  have r3 := fun z => aL (o3 z)
  have r4 := fun z => aI (o4 z)
  intro m
  induction m with
  | zero =>
    intro i hi q k hK
    refine ⟨q, some (vi (nI (4 * c + i))), ?_, ?_, fun _ _ _ h => h⟩
    · simp (decide := true) (disch := omega) only [bq_39_15, Option.bind_some, xasI, xasL, xasR, xin_t, cond_true, cond_false, nI_clamp, k_0, k_1, k_2, k_3, k_4, k_5, k_6, k_40, k_60, k_500, k_10000, pk_mul, nI_add, nI_e0, nI_ee, nI_leI, nI_ltI, xbool0, xbool1, xbn0, xbn1, xb_0, xb_1, reduceIte, one0, Option.isNone_none, ne_eq, not_true_eq_false, not_false_eq_true, if_true, if_false, ite_not, Bool.true_and, Bool.and_true, g1, r1, hk.1]
      rw [if_pos (by omega)]
    · rw [List.drop_eq_nil_of_le (by omega)]
      exact hK
  | succ m ih =>
    intro i hi q k hK
    have hel := CK_get hk (j := i) (by omega)
    obtain ⟨q1, e1, k1, f1⟩ := c_kkeep (T0 := T0) (MI := MI) (M := M) (count := q'.1 35 (4 * c + i)) (w := q'.2 37 (4 * c + i)) (sign := q'.1 36 (4 * c + i)) (o4 := none) (o6 := none) (o7 := none) D hc hK
    obtain ⟨q2, o4', e2, k2, f2⟩ := ih (i + 1) (by omega) q1 _ k1
    refine ⟨q2, o4', ?_, ?_, fun c2 kk h1 h2 => f2 c2 kk h1 (f1 c2 kk h1 h2)⟩
    · have st : xZ T0 MI 39 15 [some (vr (some a)), some (vr (some a')), some (vi (nI c)), some (vi (nI (4 * c))), some (vi (nI (4 * c + i)))] [] (pKq a s cc v g q M) = xZ T0 MI 39 54 [some (vr (some a)), some (vr (some a')), some (vi (nI c)), some (vi (nI (4 * c))), some (vi (nI (4 * c + i)))] [] (pKq a s cc v g q1 M) := by
        simp (decide := true) (disch := omega) only [bq_39_15, Option.bind_some, xasI, xasL, xasR, xin_t, cond_true, cond_false, nI_clamp, k_0, k_1, k_2, k_3, k_4, k_5, k_6, k_40, k_60, k_500, k_10000, pk_mul, nI_add, nI_e0, nI_ee, nI_leI, nI_ltI, xbool0, xbool1, xbn0, xbn1, xb_0, xb_1, reduceIte, one0, Option.isNone_none, ne_eq, not_true_eq_false, not_false_eq_true, if_true, if_false, ite_not, Bool.true_and, Bool.and_true, g1, r1, hk.1]
        rw [if_neg (by omega)]
        simp (decide := true) (disch := omega) only [bq_39_28, Option.bind_some, xasI, xasL, xasR, xin_t, cond_true, cond_false, nI_clamp, k_0, k_1, k_2, k_3, k_4, k_5, k_6, k_40, k_60, k_500, k_10000, pk_mul, nI_add, nI_e0, nI_ee, nI_leI, nI_ltI, xbool0, xbool1, xbn0, xbn1, xb_0, xb_1, reduceIte, one0, Option.isNone_none, ne_eq, not_true_eq_false, not_false_eq_true, if_true, if_false, ite_not, Bool.true_and, Bool.and_true, g2, g3, g4, r2, r3, r4, pK_c D, e1]
      rw [st, bq_39_54, nI_s]
      exact e2
    · rw [drop_s _ (show i < k'.length by omega), List.foldl_cons, hel]
      exact k2
theorem c_join {T0 MI a s cc v g a' s' c' v' g' : Nat} {q q' : xrho} {M : xM} {K K' : Nat → KW} {o2 o3 o4 : Option xV} (D : nd5 a s cc v g) (ha : M.2.2 a' = .inr (4, [vr (some s'), vr (some c'), vr (some v'), vr (some g')])) (hs : M.2.2 s' = .inl (0, 6, .inl (q'.1 34))) (hcc : M.2.2 c' = .inl (0, 24, .inl (q'.1 35))) (hv : M.2.2 v' = .inl (1, 24, .inr (.inl (q'.2 37)))) (hg : M.2.2 g' = .inl (0, 24, .inl (q'.1 36))) (N : ∀ x, (x = a' ∨ x = s' ∨ x = c' ∨ x = v' ∨ x = g') → x ≠ a ∧ x ≠ s ∧ x ≠ cc ∧ x ≠ v ∧ x ≠ g) (hK' : ∀ c, c < 6 → CK q' c (K' c)) (hK : ∀ c, c < 6 → CK q c (K c)) : ∃ q2, xZ T0 MI 39 0 [some (vr (some a)), some (vr (some a')), o2, o3, o4] [] (pKq a s cc v g q M) = some (none, pKq a s cc v g q2 M) ∧ ∀ c, c < 6 → CK q2 c ((K' c).foldl keepL (K c)) := by
  have lp : ∀ m c, c + m = 6 → ∀ (q : xrho) (o3 o4 : Option xV), (∀ x, x < c → CK q x ((K' x).foldl keepL (K x))) → (∀ x, c ≤ x → x < 6 → CK q x (K x)) → ∃ q2, xZ T0 MI 39 2 [some (vr (some a)), some (vr (some a')), some (vi (nI c)), o3, o4] [] (pKq a s cc v g q M) = some (none, pKq a s cc v g q2 M) ∧ ∀ c, c < 6 → CK q2 c ((K' c).foldl keepL (K c)) := by
    intro m
    induction m with
    | zero =>
      intro c hc q o3 o4 h1 h2
      have : c = 6 := by omega
      subst this
      exact ⟨q, by rw [bq_39_2, if_pos (by decide), bq_39_66], h1⟩
    | succ m ih =>
      intro c hc q o3 o4 h1 h2
      obtain ⟨q1, o4', e1, k1, f1⟩ := c_join_i (T0 := T0) (MI := MI) (M := M) D ha hs hcc hv hg N (show c < 6 by omega) (hK' c (by omega)) (K' c).length 0 (by omega) q (K c) (h2 c (Nat.le_refl _) (by omega))
      obtain ⟨q2, e2, k2⟩ := ih (c + 1) (by omega) q1 (some (vi (nI (4 * c)))) o4' (fun x hx => by
        by_cases e : x = c
        · subst e; exact k1
        · exact f1 x _ e (h1 x (by omega))) (fun x hx hx2 => f1 x _ (by omega) (h2 x (by omega) hx2))
      refine ⟨q2, ?_, k2⟩
      rw [bq_39_2, if_neg (by rw [k_6, nI_leI (by omega) (by omega)]; omega), bq_39_8, mul4]
      rw [show xZ T0 MI 39 15 [some (vr (some a)), some (vr (some a')), some (vi (nI c)), some (vi (nI (4 * c))), some (vi (nI (4 * c)))] [] (pKq a s cc v g q M) = _ from e1, bq_39_60, nI_s, e2]
  obtain ⟨q2, e, k⟩ := lp 6 0 (by omega) q o3 o4 (fun x hx => by omega) (fun x _ hx => hK x hx)
  exact ⟨q2, by rw [bq_39_0]; exact e, k⟩
/-! KeySet: as the reference's place 0 -/
def pSq (a ka N : Nat) (q : xrho) (M : xM) : xM := xset (xset M a (.inr (5, [vi (q.1 25 0), vr (some ka)]))) ka (.inl (0, N, .inl (q.1 26)))
theorem pS_o {a ka N : Nat} {q : xrho} {M : xM} (D : a ≠ ka) : (pSq a ka N q M).2.2 a = .inr (5, [vi (q.1 25 0), vr (some ka)]) := by
  unfold pSq
  rw [xset_ne _ _ D, xset_at]
theorem pS_ka {a ka N : Nat} {q : xrho} {M : xM} : (pSq a ka N q M).2.2 ka = .inl (0, N, .inl (q.1 26)) := by
  unfold pSq
  rw [xset_at]
theorem pS_out {a ka N b : Nat} {q : xrho} {M : xM} (h1 : b ≠ a) (h2 : b ≠ ka) : (pSq a ka N q M).2.2 b = M.2.2 b := by
  unfold pSq
  rw [xset_ne _ _ h2, xset_ne _ _ h1]
theorem pS_n {a ka N : Nat} {q : xrho} {M : xM} (D : a ≠ ka) : xgetI (pSq a ka N q M) a 5 0 = some (q.1 25 0) := gI (pS_o D) 0 rfl
theorem pS_1 {a ka N : Nat} {q : xrho} {M : xM} (D : a ≠ ka) : xgetR (pSq a ka N q M) a 5 1 = some (some ka) := gR (pS_o D) 1 rfl
theorem pS_c {a ka N : Nat} {q : xrho} {M : xM} (D : a ≠ ka) : xcls (pSq a ka N q M) a 5 = true := gC (pS_o D)
theorem pS_l {a ka N : Nat} {q : xrho} {M : xM} : xlenA (pSq a ka N q M) ka = some (Int32.ofNat N) := lenA pS_ka
theorem pS_aI {a ka N : Nat} {q : xrho} {M : xM} (i : Int32) : xaI (pSq a ka N q M) ka i = bif xin i N then some (q.1 26 i.toNatClampNeg) else none := aI pS_ka i
theorem pS_sI {a ka N : Nat} {q : xrho} {M : xM} (i x : Int32) : xsI (pSq a ka N q M) ka i x = bif xin i N then some (pSq a ka N (rup q 26 i.toNatClampNeg x) M) else none := by
  rw [sI pS_ka]
  unfold pSq
  rw [xset_xset]
  rfl
theorem pS_p {a ka N : Nat} {q : xrho} {M : xM} (D : a ≠ ka) (x : Int32) : xput (pSq a ka N q M) a 5 0 (vi x) = some (pSq a ka N (rup q 25 0 x) M) := by
  rw [pV (pS_o D) 0 rfl]
  unfold pSq
  rw [xset_comm _ _ _ (Ne.symm D), xset_xset, rup_at]
  rfl
/-- the key is there: nothing is done -/
theorem c_add_y {T0 MI a ka N n j : Nat} {q : xrho} {key : Int32} {M : xM} (D : a ≠ ka) (hN : N ≤ 1000) (hn : n ≤ N) (hj : j < n) (hk : q.1 26 j = key) (hne : ∀ i, i < n → i ≠ j → q.1 26 i ≠ key) : ∀ i, j < i → i ≤ n → ∀ x2 : Int32, xZ T0 MI 44 12 [some (vr (some a)), some (vi key), some (vi x2), some (vi (nI i - nI 1))] [] (pSq a ka N q M) = some (none, pSq a ka N q M) := by
  intro i
  induction i with
  | zero => intro h; omega
  | succ i ih =>
    intro hi hin x2
    rw [nI_s1, bq_44_12, if_neg (nI_pos (by omega))]
    simp (decide := true) (disch := omega) only [bq_44_16, Option.bind_some, xasI, xasL, xasR, xin_t, cond_true, cond_false, nI_clamp, k_0, k_1, k_2, k_3, k_4, k_5, k_6, k_40, k_60, k_500, k_10000, pk_mul, nI_add, nI_e0, nI_ee, nI_leI, nI_ltI, xbool0, xbool1, xbn0, xbn1, xb_0, xb_1, reduceIte, one0, Option.isNone_none, ne_eq, not_true_eq_false, not_false_eq_true, if_true, if_false, ite_not, Bool.true_and, Bool.and_true, pS_1 D, pS_aI]
    by_cases e : i = j
    · subst e
      rw [if_pos hk, bq_44_26]
    · rw [if_neg (hne i (by omega) e)]
      simp (decide := true) (disch := omega) only [bq_44_27, Option.bind_some, xasI, xasL, xasR, xin_t, cond_true, cond_false, nI_clamp, k_0, k_1, k_2, k_3, k_4, k_5, k_6, k_40, k_60, k_500, k_10000, pk_mul, nI_add, nI_e0, nI_ee, nI_leI, nI_ltI, xbool0, xbool1, xbn0, xbn1, xb_0, xb_1, reduceIte, one0, Option.isNone_none, ne_eq, not_true_eq_false, not_false_eq_true, if_true, if_false, ite_not, Bool.true_and, Bool.and_true, pS_1 D, pS_aI]
      by_cases e2 : q.1 26 i ≤ key
      · rw [if_pos e2, bq_44_39, dec1]
        exact ih (by omega) (by omega) x2
      · rw [if_neg e2, bq_44_37, bq_44_39, dec1]
        exact ih (by omega) (by omega) (nI i)
/-- where it goes -/
theorem c_add_n {T0 MI a ka N n r : Nat} {q : xrho} {key : Int32} {M : xM} (D : a ≠ ka) (hN : N ≤ 1000) (hn : n ≤ N) (hr : r ≤ n) (hlo : ∀ i, i < r → q.1 26 i < key) (hhi : ∀ i, r ≤ i → i < n → key < q.1 26 i) : ∀ i, i ≤ n → xZ T0 MI 44 12 [some (vr (some a)), some (vi key), some (vi (nI (max i r))), some (vi (nI i - nI 1))] [] (pSq a ka N q M) = xZ T0 MI 44 45 [some (vr (some a)), some (vi key), some (vi (nI r)), some (vi (nI 0 - nI 1))] [] (pSq a ka N q M) := by
  intro i
  induction i with
  | zero =>
    intro _
    rw [bq_44_12, if_pos (by decide), show max 0 r = r by omega]
  | succ i ih =>
    intro hin
    rw [nI_s1, bq_44_12, if_neg (nI_pos (by omega))]
    simp (decide := true) (disch := omega) only [bq_44_16, Option.bind_some, xasI, xasL, xasR, xin_t, cond_true, cond_false, nI_clamp, k_0, k_1, k_2, k_3, k_4, k_5, k_6, k_40, k_60, k_500, k_10000, pk_mul, nI_add, nI_e0, nI_ee, nI_leI, nI_ltI, xbool0, xbool1, xbn0, xbn1, xb_0, xb_1, reduceIte, one0, Option.isNone_none, ne_eq, not_true_eq_false, not_false_eq_true, if_true, if_false, ite_not, Bool.true_and, Bool.and_true, pS_1 D, pS_aI]
    by_cases e : r ≤ i
    · have h1 := hhi i e (by omega)
      rw [if_neg (fun h => by rw [h] at h1; exact i_irr h1)]
      simp (decide := true) (disch := omega) only [bq_44_27, Option.bind_some, xasI, xasL, xasR, xin_t, cond_true, cond_false, nI_clamp, k_0, k_1, k_2, k_3, k_4, k_5, k_6, k_40, k_60, k_500, k_10000, pk_mul, nI_add, nI_e0, nI_ee, nI_leI, nI_ltI, xbool0, xbool1, xbn0, xbn1, xb_0, xb_1, reduceIte, one0, Option.isNone_none, ne_eq, not_true_eq_false, not_false_eq_true, if_true, if_false, ite_not, Bool.true_and, Bool.and_true, pS_1 D, pS_aI]
      rw [if_neg (Int32.not_le.mpr h1), bq_44_37, bq_44_39, dec1, show nI i = nI (max i r) by rw [show max i r = i by omega]]
      rw [show max i r = i by omega]
      have := ih (by omega)
      rw [show max i r = i by omega] at this
      exact this
    · have h1 := hlo i (by omega)
      rw [if_neg (fun h => by rw [h] at h1; exact i_irr h1)]
      simp (decide := true) (disch := omega) only [bq_44_27, Option.bind_some, xasI, xasL, xasR, xin_t, cond_true, cond_false, nI_clamp, k_0, k_1, k_2, k_3, k_4, k_5, k_6, k_40, k_60, k_500, k_10000, pk_mul, nI_add, nI_e0, nI_ee, nI_leI, nI_ltI, xbool0, xbool1, xbn0, xbn1, xb_0, xb_1, reduceIte, one0, Option.isNone_none, ne_eq, not_true_eq_false, not_false_eq_true, if_true, if_false, ite_not, Bool.true_and, Bool.and_true, pS_1 D, pS_aI]
      rw [if_pos (Int32.le_of_lt h1), bq_44_39, dec1, show max (i + 1) r = max i r by omega]
      exact ih (by omega)
/-- into its place -/
theorem c_add_i {T0 MI a ka N n r : Nat} {q : xrho} {key : Int32} {M : xM} (D : a ≠ ka) (hN : N ≤ 1000) (hn : n < N) (hr : r ≤ n) (hq : q.1 25 0 = nI n) : ∀ m j, r + m = j → j ≤ n → xZ T0 MI 44 79 [some (vr (some a)), some (vi key), some (vi (nI r)), some (vi (nI j))] [] (pSq a ka N (va_up q.1 26 (insK (q.1 26) (500 * 0) j n), q.2) M) = some (none, pSq a ka N (owesq q 0 n r key) M) := by
  intro m
  induction m with
  | zero =>
    intro j hj hjn
    have : j = r := by omega
    subst this
    have e25 : (rup (va_up q.1 26 (insK (q.1 26) (500 * 0) j n), q.2) 26 j key).1 25 0 = nI n := by
      rw [rup_ne _ _ _ _ (by decide)]
      exact hq
    rw [bq_44_79, if_pos (by rw [nI_leI (by omega) (by omega)]; omega)]
    simp (decide := true) (disch := omega) only [bq_44_104, Option.bind_some, xasI, xasL, xasR, xin_t, cond_true, cond_false, nI_clamp, k_0, k_1, k_2, k_3, k_4, k_5, k_6, k_40, k_60, k_500, k_10000, pk_mul, nI_add, nI_e0, nI_ee, nI_leI, nI_ltI, xbool0, xbool1, xbn0, xbn1, xb_0, xb_1, reduceIte, one0, Option.isNone_none, ne_eq, not_true_eq_false, not_false_eq_true, if_true, if_false, ite_not, Bool.true_and, Bool.and_true, pS_1 D, pS_sI, pS_n D, e25, pS_p D]
    congr 3
    unfold owesq
    refine xr_ext (fun f x => ?_) (fun _ _ => rfl)
    rw [show 500 * 0 + j = j by omega]
    rfl
  | succ m ih =>
    intro j hj hjn
    obtain ⟨i, rfl⟩ : ∃ i, j = i + 1 := ⟨j - 1, by omega⟩
    rw [bq_44_79, if_neg (by rw [nI_leI (by omega) (by omega)]; omega), bq_44_84, k_1, nI_s1]
    have e : rup (va_up q.1 26 (insK (q.1 26) (500 * 0) (i + 1) n), q.2) 26 (i + 1) ((va_up q.1 26 (insK (q.1 26) (500 * 0) (i + 1) n), q.2).1 26 i) = (va_up q.1 26 (insK (q.1 26) (500 * 0) i n), q.2) := by
      unfold rup
      dsimp only
      rw [va_up_self, va_up_up]
      congr 2
      have := insK_step (q.1 26) (b := 500 * 0) (j := i) (n := n) (by omega)
      rw [show 500 * 0 + (i + 1) = i + 1 by omega, show 500 * 0 + i = i by omega] at this
      exact this
    simp (decide := true) (disch := omega) only [Option.bind_some, xasI, xasL, xasR, xin_t, cond_true, cond_false, nI_clamp, k_0, k_1, k_2, k_3, k_4, k_5, k_6, k_40, k_60, k_500, k_10000, pk_mul, nI_add, nI_e0, nI_ee, nI_leI, nI_ltI, xbool0, xbool1, xbn0, xbn1, xb_0, xb_1, reduceIte, one0, Option.isNone_none, ne_eq, not_true_eq_false, not_false_eq_true, if_true, if_false, ite_not, Bool.true_and, Bool.and_true, pS_1 D, pS_aI, pS_sI]
    rw [show rup (va_up q.1 26 (insK (q.1 26) (500 * 0) (i + 1) n), q.2) 26 (i + 1) (va_up q.1 26 (insK (q.1 26) (500 * 0) (i + 1) n) 26 i) = _ from e, dec1, nI_s1]
    exact ih i (by omega) (by omega)
/-- room for one more: the row doubled -/
theorem c_dbl {T0 MI a ka N : Nat} {q : xrho} {M : xM} {o2 : Option xV} (D : a ≠ ka) (hN : N ≤ 1000) (h0 : 0 < N) (hk : ka < M.1) (hka : a < M.1) : xZ T0 MI 217 0 [some (vr (some ka)), some (vi (Int32.ofInt 2 * nI N)), o2] [] (pSq a ka N q M) = some (some (vr (some M.1)), xset (M.1 + 1, M.2.1 + 2 * N, (pSq a ka N q M).2.2) M.1 (.inl (0, 2 * N, .inl (va_cpy (q.1 26) (fun _ => 0) 0 0 N)))) := by
  have hm : (pSq a ka N q M).1 = M.1 := rfl
  have hm2 : (pSq a ka N q M).2.1 = M.2.1 := rfl
  rw [k_2, pk_mul]
  have hl : xlenA (pSq a ka N q M) ka = some (nI N) := pS_l
  rw [bq_217_0, Option.bind_some, hl, Option.bind_some, if_neg (by rw [nI_ee (by omega) (by omega)]; omega), bq_217_14]
  have hnew : xnewA (pSq a ka N q M) 0 (nI (2 * N)) = some (xset (M.1 + 1, M.2.1 + 2 * N, (pSq a ka N q M).2.2) M.1 (.inl (0, 2 * N, .inl (fun _ => 0)))) := by
    unfold xnewA
    have c1 : ((!decide (nI (2 * N) < 0)) && Nat.ble (nI (2 * N)).toNatClampNeg 1000000) = true := by
      rw [nI_clamp (by omega)]
      have : ¬ nI (2 * N) < 0 := nI_pos (by omega)
      simp [this]
      omega
    rw [c1, nI_clamp (by omega)]
    rfl
  have d1 : ka ≠ M.1 := by omega
  have h1 : (xset (M.1 + 1, M.2.1 + 2 * N, (pSq a ka N q M).2.2) M.1 (.inl (0, 2 * N, .inl (fun _ => 0)))).2.2 ka = .inl (0, N, .inl (q.1 26)) := by
    rw [xset_ne _ _ d1]
    exact pS_ka
  have h2 : xlenA (xset (M.1 + 1, M.2.1 + 2 * N, (pSq a ka N q M).2.2) M.1 (.inl (0, 2 * N, .inl (fun _ => 0)))) ka = some (nI N) := lenA h1
  rw [hnew, Option.bind_some, Option.bind_some, h2, Option.bind_some, Option.bind_some, if_neg (by rw [nI_ltI (by omega) (by omega)]; omega), hm]
  have ok : xcpyOk 0 0 (nI N) N (2 * N) = true := by
    unfold xcpyOk
    have : ¬ nI N < 0 := nI_pos (by omega)
    rw [nI_clamp (by omega)]
    simp [this]
    omega
  have hc := cpyI (m := nI N) h1 (xset_at _ _ _) (show Nat.blt 0 (2 * N) = true by simp [Nat.blt]; omega) ok
  rw [show xcopy (xset (M.1 + 1, M.2.1 + 2 * N, (pSq a ka N q M).2.2) M.1 (.inl (0, 2 * N, .inl (fun _ => 0)))) ka (Int32.ofInt 0) M.1 (Int32.ofInt 0) (nI N) = _ from hc, Option.bind_some, xset_xset, nI_clamp (by omega)]
