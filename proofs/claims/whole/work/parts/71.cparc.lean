/-! Parcel -/
def oParc (M : xM) (ow : xOw) (g a : Nat) (lo hi n : Int32) (ps : PW) (kp : Option Nat) : Prop := ∃ (ka ta va : Nat) (f t : Nat → Int32) (w : Nat → Int64), M.2.2 a = .inr (8, [vi lo, vi hi, vi n, vr (some ka), vr (some ta), vr (some va), vr kp]) ∧ M.2.2 ka = .inl (0, 3, .inl f) ∧ M.2.2 ta = .inl (2, 3, .inl t) ∧ M.2.2 va = .inl (1, 3, .inr (.inl w)) ∧ ps.length ≤ 3 ∧ (∀ j (hj : j < ps.length), ps[j] = (f j, t j, w j)) ∧ (ow a = (g, 0) ∧ ow ka = (g, 1) ∧ ow ta = (g, 2) ∧ ow va = (g, 3)) ∧ a < M.1 ∧ ka < M.1 ∧ ta < M.1 ∧ va < M.1
theorem oParc_f {P : Nat × Nat → Prop} {x y : Nat} {ow ow' : xOw} {M M' : xM} {g a : Nat} {lo hi n : Int32} {ps : PW} {kp : Option Nat} (h : oParc M ow g a lo hi n ps kp) (hs : stp P x y ow M ow' M') (hP : ∀ t, inP g 0 3 t → P t) : oParc M' ow' g a lo hi n ps kp := by
  obtain ⟨ka, ta, va, f, t, w, h1, h2, h3, h4, h5, h6, ⟨o1, o2, o3, o4⟩, b1, b2, b3, b4⟩ := h
  obtain ⟨s1, s2, s3, s4⟩ := hs
  refine ⟨ka, ta, va, f, t, w, ?_, ?_, ?_, ?_, h5, h6, ⟨?_, ?_, ?_, ?_⟩, by omega, by omega, by omega, by omega⟩
  · rw [(s4 a b1).2 (hP _ (by rw [o1]; exact inP_i (by decide) (by decide)))]; exact h1
  · rw [(s4 ka b2).2 (hP _ (by rw [o2]; exact inP_i (by decide) (by decide)))]; exact h2
  · rw [(s4 ta b3).2 (hP _ (by rw [o3]; exact inP_i (by decide) (by decide)))]; exact h3
  · rw [(s4 va b4).2 (hP _ (by rw [o4]; exact inP_i (by decide) (by decide)))]; exact h4
  · rw [(s4 a b1).1]; exact o1
  · rw [(s4 ka b2).1]; exact o2
  · rw [(s4 ta b3).1]; exact o3
  · rw [(s4 va b4).1]; exact o4
theorem oP_c {M : xM} {ow : xOw} {g a : Nat} {lo hi n : Int32} {ps : PW} {kp : Option Nat} (h : oParc M ow g a lo hi n ps kp) : xcls M a 8 = true ∧ xgetI M a 8 0 = some lo ∧ xgetI M a 8 1 = some hi ∧ xgetI M a 8 2 = some n ∧ xgetR M a 8 6 = some kp := by
  obtain ⟨ka, ta, va, f, t, w, h1, -⟩ := h
  exact ⟨gC h1, gI h1 0 rfl, gI h1 1 rfl, gI h1 2 rfl, gR h1 6 rfl⟩
theorem oP_put {T0 MI g a : Nat} {M : xM} {ow : xOw} {lo hi key z : Int32} {v : Int64} {ps : PW} {kp : Option Nat} {o4 : Option xV} (h : oParc M ow g a lo hi (nI ps.length) ps kp) (hz : xbool z = true) : ∃ M', xZ T0 MI 52 0 [some (vr (some a)), some (vi key), some (vi z), some (vl v), o4] [] M = some (none, M') ∧ oParc M' ow g a lo hi (nI (if ps.length = 3 then ps else ps ++ [(key, z, v)]).length) (if ps.length = 3 then ps else ps ++ [(key, z, v)]) kp ∧ stp (fun t => ¬ inP g 0 3 t) 0 0 ow M ow M' := by
  have hh := h
  obtain ⟨ka, ta, va, f, t, w, h1, h2, h3, h4, h5, h6, ⟨o1, o2, o3, o4'⟩, b⟩ := h
  have gn : xgetI M a 8 2 = some (nI ps.length) := gI h1 2 rfl
  rw [bq_52_0, gn, Option.bind_some, if_neg (nI_pos (by omega)), bq_52_7, gn, Option.bind_some, k_3]
  by_cases e : ps.length = 3
  · rw [if_pos (by rw [nI_leI (by omega) (by omega)]; omega), bq_52_55]
    refine ⟨M, rfl, by rw [if_pos e]; exact hh, stp_rf _ _ _⟩
  · rw [if_neg (by rw [nI_leI (by omega) (by omega)]; omega)]
    have d1 : a ≠ ka := ow_ne o1 o2 (by simp)
    have d2 : a ≠ ta := ow_ne o1 o3 (by simp)
    have d3 : a ≠ va := ow_ne o1 o4' (by simp)
    have d4 : ka ≠ ta := ow_ne o2 o3 (by simp)
    have d5 : ka ≠ va := ow_ne o2 o4' (by simp)
    have d6 : ta ≠ va := ow_ne o3 o4' (by simp)
    have nP : ∀ k, k ≤ 3 → ¬ ¬ inP g 0 3 (g, k) := fun k hk h => h (inP_i (Nat.zero_le _) hk)
    -- keys
    have p1 : xsI M ka (nI ps.length) key = some (xset M ka (.inl (0, 3, .inl (upd f ps.length key)))) := by rw [sI h2, xin_t (by omega) (by omega), nI_clamp (by omega)]; rfl
    generalize hM1 : xset M ka (.inl (0, 3, .inl (upd f ps.length key))) = M1 at p1
    have s1 : stp (fun t => ¬ inP g 0 3 t) 0 0 ow M ow M1 := by rw [← hM1]; exact stp_set (by rw [o2]; exact nP 1 (by decide))
    have a1 : M1.2.2 a = .inr (8, [vi lo, vi hi, vi (nI ps.length), vr (some ka), vr (some ta), vr (some va), vr kp]) := by rw [← hM1, xset_ne _ _ d1]; exact h1
    have k1 : M1.2.2 ka = .inl (0, 3, .inl (upd f ps.length key)) := by rw [← hM1, xset_at]
    have t1 : M1.2.2 ta = .inl (2, 3, .inl t) := by rw [← hM1, xset_ne _ _ (Ne.symm d4)]; exact h3
    have v1 : M1.2.2 va = .inl (1, 3, .inr (.inl w)) := by rw [← hM1, xset_ne _ _ (Ne.symm d5)]; exact h4
    -- there
    have p2 : xsZ M1 ta (nI ps.length) z = some (xset M1 ta (.inl (2, 3, .inl (upd t ps.length z)))) := by rw [sZ t1, xin_t (by omega) (by omega), hz, nI_clamp (by omega)]; rfl
    generalize hM2 : xset M1 ta (.inl (2, 3, .inl (upd t ps.length z))) = M2 at p2
    have s2 : stp (fun t => ¬ inP g 0 3 t) 0 0 ow M1 ow M2 := by rw [← hM2]; exact stp_set (by rw [o3]; exact nP 2 (by decide))
    have a2 : M2.2.2 a = .inr (8, [vi lo, vi hi, vi (nI ps.length), vr (some ka), vr (some ta), vr (some va), vr kp]) := by rw [← hM2, xset_ne _ _ d2]; exact a1
    have k2 : M2.2.2 ka = .inl (0, 3, .inl (upd f ps.length key)) := by rw [← hM2, xset_ne _ _ d4]; exact k1
    have t2 : M2.2.2 ta = .inl (2, 3, .inl (upd t ps.length z)) := by rw [← hM2, xset_at]
    have v2 : M2.2.2 va = .inl (1, 3, .inr (.inl w)) := by rw [← hM2, xset_ne _ _ (Ne.symm d6)]; exact v1
    -- values
    have p3 : xsL M2 va (nI ps.length) v = some (xset M2 va (.inl (1, 3, .inr (.inl (vp_updL w ps.length v))))) := by rw [sL v2, xin_t (by omega) (by omega), nI_clamp (by omega)]; rfl
    generalize hM3 : xset M2 va (.inl (1, 3, .inr (.inl (vp_updL w ps.length v)))) = M3 at p3
    have s3 : stp (fun t => ¬ inP g 0 3 t) 0 0 ow M2 ow M3 := by rw [← hM3]; exact stp_set (by rw [o4']; exact nP 3 (by decide))
    have a3 : M3.2.2 a = .inr (8, [vi lo, vi hi, vi (nI ps.length), vr (some ka), vr (some ta), vr (some va), vr kp]) := by rw [← hM3, xset_ne _ _ d3]; exact a2
    have k3 : M3.2.2 ka = .inl (0, 3, .inl (upd f ps.length key)) := by rw [← hM3, xset_ne _ _ d5]; exact k2
    have t3 : M3.2.2 ta = .inl (2, 3, .inl (upd t ps.length z)) := by rw [← hM3, xset_ne _ _ d6]; exact t2
    have v3 : M3.2.2 va = .inl (1, 3, .inr (.inl (vp_updL w ps.length v))) := by rw [← hM3, xset_at]
    have m3 : M3.1 = M.1 := by rw [← hM3, ← hM2, ← hM1]; rfl
    refine ⟨xset M3 a (.inr (8, [vi lo, vi hi, vi (nI (ps.length + 1)), vr (some ka), vr (some ta), vr (some va), vr kp])), ?_, ?_, stp_tr (stp_tr (stp_tr s1 s2) s3) (stp_set (by rw [o1]; exact nP 0 (by decide)))⟩
    · rw [bq_52_15, gR h1 3 rfl, Option.bind_some, gn, Option.bind_some, Option.bind_some, p1, Option.bind_some, gR a1 4 rfl, Option.bind_some, gI a1 2 rfl, Option.bind_some, Option.bind_some, p2, Option.bind_some, gR a2 5 rfl, Option.bind_some, gI a2 2 rfl, Option.bind_some, Option.bind_some, p3, Option.bind_some, gI a3 2 rfl, Option.bind_some, nI_s, pV a3 2 rfl, Option.bind_some, bq_52_55]
      rfl
    · rw [if_neg e, List.length_append, List.length_singleton]
      refine ⟨ka, ta, va, upd f ps.length key, upd t ps.length z, vp_updL w ps.length v, xset_at _ _ _, ?_, ?_, ?_, by rw [List.length_append, List.length_singleton]; omega, fun j hj => ?_, ⟨o1, o2, o3, o4'⟩, ?_⟩
      · rw [xset_ne _ _ (Ne.symm d1)]; exact k3
      · rw [xset_ne _ _ (Ne.symm d2)]; exact t3
      · rw [xset_ne _ _ (Ne.symm d3)]; exact v3
      · rw [List.length_append, List.length_singleton] at hj
        unfold upd vp_updL
        by_cases ej : j = ps.length
        · subst ej
          simp
        · rw [List.getElem_append_left (by omega), h6 j (by omega), if_neg ej, if_neg ej]
          simp [ej]
      · show a < M3.1 ∧ ka < M3.1 ∧ ta < M3.1 ∧ va < M3.1
        rw [m3]
        exact b
/-! pack -/
theorem c_pack {T0 MI g g' a ra ka sa p : Nat} {ow : xOw} {h : Nat → Int32} {R : RW} {K : Nat → KW} {S : List Int32} {lo hi : Int32} {kp : Option Nat} {w : Bool} (hg : g ≠ g') : ∀ m i, i + m = S.length → ∀ (M : xM) (ps : PW) (o3 : Option xV), oHA M ow g a ra ka sa h (some p) R K S → oParc M ow g' p lo hi (nI ps.length) ps kp → ∃ M', xZ T0 MI 21 2 [some (vr (some a)), some (vi (zI w)), some (vi (nI i)), o3] [] M = some (none, M') ∧ oParc M' ow g' p lo hi (nI ((S.drop i).foldl (chL R w) ps).length) ((S.drop i).foldl (chL R w) ps) kp ∧ stp (fun t => ¬ inP g' 0 3 t) 0 0 ow M ow M' := by
  intro m
  induction m with
  | zero =>
    intro i hi M ps o3 H hp
    obtain ⟨sk, N, f, h1, h2, h3, h4, h5, -⟩ := oS_at H.2.2.2.2.2
    refine ⟨M, ?_, ?_, stp_rf _ _ _⟩
    · rw [bq_21_2, hA_13 H, Option.bind_some, Option.bind_some, gI h1 0 rfl, Option.bind_some, if_pos (by rw [nI_leI (by omega) (by omega)]; omega), bq_21_66]
    · rw [List.drop_eq_nil_of_le (by omega)]
      exact hp
  | succ m ih =>
    intro i hi M ps o3 H hp
    obtain ⟨sk, N, f, h1, h2, h3, h4, h5, hf, -⟩ := oS_at H.2.2.2.2.2
    have hii : i < S.length := by omega
    have ra1 : xaI M sk (nI i) = some S[i] := by rw [aI h2, xin_t (by omega) (by omega), nI_clamp (by omega), hf i hii]; rfl
    obtain ⟨x, ex, hx⟩ := oR_find (T0 := T0) (MI := MI) (key := S[i]) (o2 := none) H.2.2.2.1
    have ev := oR_value (T0 := T0) (MI := MI) (key := S[i]) (o2 := none) H.2.2.2.1
    have hl3 : ps.length ≤ 3 := by
      obtain ⟨_, _, _, _, _, _, _, _, _, _, q, _⟩ := hp
      exact q
    have st : xZ T0 MI 21 2 [some (vr (some a)), some (vi (zI w)), some (vi (nI i)), o3] [] M = xZ T0 MI 21 39 [some (vr (some a)), some (vi (zI w)), some (vi (nI i)), some (vi S[i])] [vi (zI (lkp Prod.fst S[i] R).isSome)] M := by
      rw [bq_21_2, hA_13 H, Option.bind_some, Option.bind_some, gI h1 0 rfl, Option.bind_some, if_neg (by rw [nI_leI (by omega) (by omega)]; omega), bq_21_13, hA_13 H, Option.bind_some, Option.bind_some, gR h1 1 rfl, Option.bind_some, Option.bind_some, ra1, Option.bind_some, hA_4 H, Option.bind_some, Option.bind_some, oR_cls H.2.2.2.1, cond_true, ex]
      simp (decide := true) (disch := omega) only [Option.bind_some, xasI, xasL, xasR, xin_t, cond_true, cond_false, nI_clamp, k_0, k_1, k_2, k_3, k_4, k_5, k_6, k_40, k_60, k_500, k_10000, pk_mul, nI_add, nI_e0, nI_ee, nI_leI, nI_ltI, xbool0, xbool1, xbn0, xbn1, xb_0, xb_1, reduceIte, one0, Option.isNone_none, ne_eq, not_true_eq_false, not_false_eq_true, if_true, if_false, ite_not, Bool.true_and, Bool.and_true]
      rw [bq_21_31]
      cases hs : (lkp Prod.fst S[i] R).isSome with
      | true => rw [if_neg (fun e => absurd (hx.mp e) (by rw [hs]; decide)), bq_21_34]; rfl
      | false => rw [if_pos (hx.mpr hs), bq_21_38]; rfl
    have hch : chL R w ps S[i] = if (lkp Prod.fst S[i] R).isSome = w then (if ps.length = 3 then ps else ps ++ [(S[i], zI w, lkv (lkp Prod.fst S[i] R))]) else ps := by
      unfold chL
      by_cases e1 : ps.length = 3
      · rw [if_pos (Or.inl e1), if_pos e1]; split <;> rfl
      · rw [if_neg e1]
        by_cases e2 : (lkp Prod.fst S[i] R).isSome = w
        · rw [if_neg (fun h => h.elim e1 (fun h => h e2)), if_pos e2]
        · rw [if_pos (Or.inr e2), if_neg e2]
    rw [drop_s _ hii, List.foldl_cons, hch, st, bq_21_39]
    by_cases e2 : (lkp Prod.fst S[i] R).isSome = w
    · rw [if_pos e2, if_pos (by rw [e2])]
      obtain ⟨M1, e1, p1, s1⟩ := oP_put (T0 := T0) (MI := MI) (key := S[i]) (z := zI w) (v := lkv (lkp Prod.fst S[i] R)) (o4 := none) hp (xbool_z w)
      have H1 : oHA M1 ow g a ra ka sa h (some p) R K S := hA_f H s1 (fun t ht e => hg (ht.symm.trans e.1))
      obtain ⟨M2, e3, p3, s3⟩ := ih (i + 1) (by omega) M1 _ (some (vi S[i])) H1 p1
      refine ⟨M2, ?_, p3, stp_tr s1 s3⟩
      rw [bq_21_43, hA_11 H, Option.bind_some, hA_4 H, Option.bind_some, Option.bind_some, oR_cls H.2.2.2.1, cond_true, ev]
      simp (decide := true) (disch := omega) only [Option.bind_some, xasI, xasL, xasR, xin_t, cond_true, cond_false, nI_clamp, k_0, k_1, k_2, k_3, k_4, k_5, k_6, k_40, k_60, k_500, k_10000, pk_mul, nI_add, nI_e0, nI_ee, nI_leI, nI_ltI, xbool0, xbool1, xbn0, xbn1, xb_0, xb_1, reduceIte, one0, Option.isNone_none, ne_eq, not_true_eq_false, not_false_eq_true, if_true, if_false, ite_not, Bool.true_and, Bool.and_true]
      rw [bq_21_57, Option.bind_some, (oP_c hp).1, cond_true, e1]
      simp (decide := true) (disch := omega) only [Option.bind_some, xasI, xasL, xasR, xin_t, cond_true, cond_false, nI_clamp, k_0, k_1, k_2, k_3, k_4, k_5, k_6, k_40, k_60, k_500, k_10000, pk_mul, nI_add, nI_e0, nI_ee, nI_leI, nI_ltI, xbool0, xbool1, xbn0, xbn1, xb_0, xb_1, reduceIte, one0, Option.isNone_none, ne_eq, not_true_eq_false, not_false_eq_true, if_true, if_false, ite_not, Bool.true_and, Bool.and_true]
      rw [bq_21_60, nI_s, e3]
    · rw [if_neg e2, if_neg (fun h => e2 (by
        revert h
        cases (lkp Prod.fst S[i] R).isSome <;> cases w <;> decide))]
      obtain ⟨M2, e3, p3, s3⟩ := ih (i + 1) (by omega) M ps (some (vi S[i])) H hp
      exact ⟨M2, by rw [bq_21_60, nI_s, e3], p3, s3⟩
