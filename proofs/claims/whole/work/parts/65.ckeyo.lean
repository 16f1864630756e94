/-! KeySet as an object -/
def oKeys (M : xM) (ow : xOw) (g a : Nat) (s : List Int32) : Prop := ∃ (ka N : Nat) (q : xrho), M.2.2 a = .inr (5, [vi (q.1 25 0), vr (some ka)]) ∧ M.2.2 ka = .inl (0, N, .inl (q.1 26)) ∧ PS q 0 s ∧ (s.length ≤ N ∧ 8 ≤ N ∧ N ≤ 1000) ∧ (ow a = (g, 9) ∧ ow ka = (g, 10)) ∧ a < M.1 ∧ ka < M.1
theorem oKeys_f {P : Nat × Nat → Prop} {x y : Nat} {ow ow' : xOw} {M M' : xM} {g a : Nat} {s : List Int32} (h : oKeys M ow g a s) (hs : stp P x y ow M ow' M') (hP : ∀ t, inP g 9 10 t → P t) : oKeys M' ow' g a s := by
  obtain ⟨ka, N, q, h1, h2, h3, h4, ⟨o1, o2⟩, b1, b2⟩ := h
  obtain ⟨s1, s2, s3, s4⟩ := hs
  refine ⟨ka, N, q, ?_, ?_, h3, h4, ⟨?_, ?_⟩, by omega, by omega⟩
  · rw [(s4 a b1).2 (hP _ (by rw [o1]; exact inP_i (by decide) (by decide)))]; exact h1
  · rw [(s4 ka b2).2 (hP _ (by rw [o2]; exact inP_i (by decide) (by decide)))]; exact h2
  · rw [(s4 a b1).1]; exact o1
  · rw [(s4 ka b2).1]; exact o2
theorem pSq_id {a ka N : Nat} {q : xrho} {M : xM} (h1 : M.2.2 a = .inr (5, [vi (q.1 25 0), vr (some ka)])) (h2 : M.2.2 ka = .inl (0, N, .inl (q.1 26))) : pSq a ka N q M = M := by
  unfold pSq
  rw [xset_id h1, xset_id h2]
theorem pSq_stp {a ka N g : Nat} {q : xrho} {M : xM} {ow : xOw} (o : ow a = (g, 9) ∧ ow ka = (g, 10)) : stp (fun t => ¬ inP g 9 10 t) 0 0 ow M ow (pSq a ka N q M) := by
  unfold pSq
  have n : ∀ k, 9 ≤ k → k ≤ 10 → ¬ ¬ inP g 9 10 (g, k) := fun k h1 h2 h => h (inP_i h1 h2)
  refine stp_tr (x := 0) (y := 0) (stp_set ?_) (stp_set ?_)
  · rw [o.1]; exact n _ (by decide) (by decide)
  · rw [o.2]; exact n _ (by decide) (by decide)
theorem oKeys_mk {a ka N g : Nat} {q : xrho} {M : xM} {ow : xOw} {s : List Int32} (o : ow a = (g, 9) ∧ ow ka = (g, 10)) (b : a < M.1 ∧ ka < M.1) (h : PS q 0 s) (hN : s.length ≤ N ∧ 8 ≤ N ∧ N ≤ 1000) : oKeys (pSq a ka N q M) ow g a s := ⟨ka, N, q, pS_o (ow_ne o.1 o.2 (by simp)), pS_ka, h, hN, o, b⟩
theorem PS_i {q : xrho} {s : List Int32} (h : PS q 0 s) {j : Nat} (hj : j < s.length) : q.1 26 j = s[j] := by
  have := PS_get h hj
  rw [show 500 * 0 + j = j by omega] at this
  exact this
theorem srt_get {s : List Int32} (h : srt id s) {i j : Nat} (hij : i < j) (hj : j < s.length) : s[i]'(by omega) < s[j] := List.pairwise_iff_getElem.mp h i j (by omega) hj hij
theorem PS_w {q q1 : xrho} {s : List Int32} (h : PS q 0 s) (h1 : q1.1 25 0 = q.1 25 0) (h2 : ∀ j, j < s.length → q1.1 26 j = q.1 26 j) : PS q1 0 s := by
  refine ⟨h1.trans h.1, h.2.1, ?_, h.2.2.2⟩
  have e : q1.1 25 0 = nI s.length := h1.trans h.1
  have hl := h.2.1
  have h3 := h.2.2.1
  unfold sendV at h3 ⊢
  rw [nu_of e (by omega)]
  rw [PS_nu h] at h3
  refine Eq.trans ?_ h3
  apply win_congr
  intro j hj
  rw [show 500 * 0 + j = j by omega]
  exact h2 j hj
theorem oS_add {T0 MI g a : Nat} {M : xM} {ow : xOw} {s : List Int32} {key : Int32} {o2 o3 : Option xV} (h : oKeys M ow g a s) (hb : (addK s key).length < 500) : ∃ M' ow', xZ T0 MI 44 0 [some (vr (some a)), some (vi key), o2, o3] [] M = some (none, M') ∧ oKeys M' ow' g a (addK s key) ∧ stp (fun t => ¬ inP g 9 10 t) 1 (2 * s.length) ow M ow' M' := by
  obtain ⟨ka, N, q, h1, h2, h3, h4, o, b⟩ := h
  have D : a ≠ ka := ow_ne o.1 o.2 (by simp)
  have hid := pSq_id h1 h2
  have hlen := h3.2.1
  have st : xZ T0 MI 44 0 [some (vr (some a)), some (vi key), o2, o3] [] M = xZ T0 MI 44 12 [some (vr (some a)), some (vi key), some (vi (nI s.length)), some (vi (nI s.length - nI 1))] [] (pSq a ka N q M) := by
    rw [hid, bq_44_0, gI h1 0 rfl, Option.bind_some, Option.bind_some, h3.1, k_1]
  have hs := h3.2.2.2
  cases hl : lkp id key s with
  | some x =>
    obtain ⟨x1, x2⟩ := lkp_some hl
    have hadd : addK s key = s := by unfold addK; rw [hl]
    obtain ⟨j, hj, hjx⟩ := List.getElem_of_mem x1
    have hkey : q.1 26 j = key := by rw [PS_i h3 hj, hjx]; exact x2
    refine ⟨M, ow, ?_, by rw [hadd]; exact ⟨ka, N, q, h1, h2, h3, h4, o, b⟩, stp_w (stp_rf _ _ _) (fun _ h => h) (by omega) (by omega)⟩
    rw [st, c_add_y D h4.2.2 h4.1 hj hkey (fun i hi hij => by
      rw [PS_i h3 hi]
      intro e
      rcases Nat.lt_or_gt_of_ne hij with hlt | hlt
      · have := srt_get hs hlt hj
        rw [e, hjx, show x = key from x2] at this
        exact i_irr this
      · have := srt_get hs hlt hi
        rw [e, hjx, show x = key from x2] at this
        exact i_irr this) s.length hj (Nat.le_refl _), hid]
  | none =>
    have hadd : addK s key = insR id key s := by unfold addK; rw [hl]
    rw [hadd, insR_len] at hb
    have hrs := rpos_spec (g := fun j => q.1 26 (500 * 0 + j)) (key := key) (n := s.length)
    have hr := rpos_le (fun j => q.1 26 (500 * 0 + j)) key s.length
    generalize hrd : rpos (fun j => q.1 26 (500 * 0 + j)) key s.length = r at hrs hr
    have z5 : ∀ j, 500 * 0 + j = j := fun j => by omega
    have hhi : ∀ i, r ≤ i → i < s.length → key < q.1 26 i := fun i h1 h2 => by
      have := hrs.1 i h1 h2
      rw [z5] at this
      exact this
    have hlo : ∀ i, i < r → q.1 26 i < key := by
      intro i hi
      have hne : ∀ j (hj : j < s.length), s[j] ≠ key := fun j hj e => lkp_none.mp hl s[j] (List.getElem_mem hj) e
      have h5 : ¬ key < q.1 26 (r - 1) := by
        rcases hrs.2 with h | h
        · omega
        · rw [z5] at h; exact h
      have h6 : q.1 26 (r - 1) < key := by
        rcases Int32.lt_or_lt_of_ne (fun h => by
          rw [PS_i h3 (show r - 1 < s.length by omega)] at h
          exact hne _ _ h : q.1 26 (r - 1) ≠ key) with h | h
        · exact h
        · exact absurd h h5
      by_cases e : i = r - 1
      · rw [e]; exact h6
      · have h7 := srt_get hs (show i < r - 1 by omega) (show r - 1 < s.length by omega)
        rw [← PS_i h3 (show i < s.length by omega), ← PS_i h3 (show r - 1 < s.length by omega)] at h7
        exact i_tr h7 h6
    have st2 := c_add_n (T0 := T0) (MI := MI) (M := M) D h4.2.2 h4.1 hr hlo hhi s.length (Nat.le_refl _)
    rw [show max s.length r = s.length by omega] at st2
    -- the lists
    have fin : ∀ q1 : xrho, PS q1 0 s → rpos (fun j => q1.1 26 (500 * 0 + j)) key s.length = r → PS (owesq q1 0 s.length r key) 0 (insR id key s) := by
      intro q1 hq1 hr1
      have hg := gowes_spec (key := key) hq1.2.1 hq1.1 (by rw [hq1.2.2.1]; exact hq1.2.2.2)
      have e1 : gowes q1 0 s.length key = owesq q1 0 s.length r key := by
        unfold gowes
        have : rfnd (fun j => q1.1 26 (500 * 0 + j)) key 0 s.length = none := by
          cases hf : rfnd (fun j => q1.1 26 (500 * 0 + j)) key 0 s.length with
          | none => rfl
          | some j =>
            obtain ⟨-, hj, hk⟩ := rfnd_lt hf
            exact absurd (by rw [z5] at hk; rw [← PS_i hq1 (show j < s.length by omega)]; exact hk) (lkp_none.mp hl s[j] (List.getElem_mem (by omega)))
        rw [this, hr1]
      rw [e1, hq1.2.2.1, hadd] at hg
      refine ⟨hg.1, by rw [insR_len]; exact hb, hg.2, ?_⟩
      have := addK_srt (key := key) hs
      rw [hadd] at this
      exact this
    rw [hadd]
    by_cases eN : s.length = N
    · -- doubled
      have hd := c_dbl (T0 := T0) (MI := MI) (a := a) (ka := ka) (N := N) (q := q) (M := M) (o2 := none) D h4.2.2 (by omega) b.2 b.1
      have q1i : ∀ j, j < N → (va_up q.1 26 (va_cpy (q.1 26) (fun _ => 0) 0 0 N)) 26 j = q.1 26 j := fun j hj => by
        rw [va_up_self, cpy_at _ _ hj]
      have hq1 : PS (va_up q.1 26 (va_cpy (q.1 26) (fun _ => 0) 0 0 N), q.2) 0 s := PS_w h3 rfl (fun j hj => q1i j (by omega))
      have hr1 : rpos (fun j => ((va_up q.1 26 (va_cpy (q.1 26) (fun _ => 0) 0 0 N), q.2) : xrho).1 26 (500 * 0 + j)) key s.length = r := by
        rw [← hrd]
        apply rpos_congr
        intro j hj
        rw [z5]
        exact q1i j (by omega)
      have e25 : ((va_up q.1 26 (va_cpy (q.1 26) (fun _ => 0) 0 0 N), q.2) : xrho).1 25 0 = q.1 25 0 := rfl
      have e26 : ((va_up q.1 26 (va_cpy (q.1 26) (fun _ => 0) 0 0 N), q.2) : xrho).1 26 = va_cpy (q.1 26) (fun _ => 0) 0 0 N := va_up_self q.1 26 (va_cpy (q.1 26) (fun _ => 0) 0 0 N)
      generalize hQ : ((va_up q.1 26 (va_cpy (q.1 26) (fun _ => 0) 0 0 N), q.2) : xrho) = q1 at hq1 hr1 e25 e26
      have o' : (va_up ow M.1 (g, 10)) a = (g, 9) ∧ (va_up ow M.1 (g, 10)) M.1 = (g, 10) := ⟨by rw [va_up_ne _ _ (by omega)]; exact o.1, va_up_self _ _ _⟩
      have D' : a ≠ M.1 := by omega
      have ci := c_add_i (T0 := T0) (MI := MI) (key := key) (M := (M.1 + 1, M.2.1 + 2 * N, M.2.2)) (q := q1) (N := 2 * N) D' (by omega) (show s.length < 2 * N by omega) hr hq1.1 (s.length - r) s.length (by omega) (Nat.le_refl _)
      rw [show ((va_up q1.1 26 (insK (q1.1 26) (500 * 0) s.length s.length), q1.2) : xrho) = q1 by rw [insK_n, va_up_id]] at ci
      refine ⟨pSq a M.1 (2 * N) (owesq q1 0 s.length r key) (M.1 + 1, M.2.1 + 2 * N, M.2.2), va_up ow M.1 (g, 10), ?_, oKeys_mk o' ⟨by show a < M.1 + 1; omega, Nat.lt_succ_self _⟩ (fin q1 hq1 hr1) ⟨by rw [insR_len]; omega, by omega, by omega⟩, ?_⟩
      · rw [st, st2, bq_44_45, pS_n D, Option.bind_some, pS_1 D, Option.bind_some, Option.bind_some, pS_l, Option.bind_some, h3.1, if_pos (show nI s.length = Int32.ofNat N by rw [eN]; rfl), bq_44_57, pS_1 D, Option.bind_some, pS_n D, Option.bind_some, h3.1, eN, hd, Option.bind_some]
        rw [hid]
        have hm : xput (xset (M.1 + 1, M.2.1 + 2 * N, M.2.2) M.1 (.inl (0, 2 * N, .inl (va_cpy (q.1 26) (fun _ => 0) 0 0 N)))) a 5 1 (vr (some M.1)) = some (pSq a M.1 (2 * N) q1 (M.1 + 1, M.2.1 + 2 * N, M.2.2)) := by
          have hc : (xset (M.1 + 1, M.2.1 + 2 * N, M.2.2) M.1 (.inl (0, 2 * N, .inl (va_cpy (q.1 26) (fun _ => 0) 0 0 N)))).2.2 a = .inr (5, [vi (q.1 25 0), vr (some ka)]) := by
            rw [xset_ne _ _ D']
            exact h1
          rw [pV hc 1 rfl]
          unfold pSq
          rw [e25, e26, xset_comm _ _ _ (Ne.symm D')]
          rfl
        show xZ T0 MI 44 71 [some (vr (some a)), some (vi key), some (vi (nI r)), some (vi (nI 0 - nI 1))] [vr (some M.1), vr (some a)] (xset (M.1 + 1, M.2.1 + 2 * N, M.2.2) M.1 (.inl (0, 2 * N, .inl (va_cpy (q.1 26) (fun _ => 0) 0 0 N)))) = _
        rw [bq_44_71, hm, Option.bind_some, bq_44_74, pS_n D', Option.bind_some, hq1.1, ← eN]
        rw [← eN] at ci
        exact ci
      · have s1 := stp_new (P := fun t => ¬ inP g 9 10 t) (ow := ow) (M := M) (e := M.2.2 M.1) (y := 2 * N) (t := (g, 10)) (fun hb => bnd_g hb b.1 o.1)
        rw [va_up_id] at s1
        exact stp_w (stp_tr s1 (pSq_stp o')) (fun _ h => h) (by omega) (by omega)
    · have ci := c_add_i (T0 := T0) (MI := MI) (key := key) (M := M) (q := q) (N := N) D h4.2.2 (show s.length < N by omega) hr h3.1 (s.length - r) s.length (by omega) (Nat.le_refl _)
      rw [show ((va_up q.1 26 (insK (q.1 26) (500 * 0) s.length s.length), q.2) : xrho) = q by rw [insK_n, va_up_id]] at ci
      refine ⟨pSq a ka N (owesq q 0 s.length r key) M, ow, ?_, oKeys_mk o b (fin q h3 hrd) ⟨by rw [insR_len]; omega, h4.2.1, h4.2.2⟩, stp_w (pSq_stp o) (fun _ h => h) (by omega) (by omega)⟩
      rw [st, st2, bq_44_45, pS_n D, Option.bind_some, pS_1 D, Option.bind_some, Option.bind_some, pS_l, Option.bind_some, h3.1, if_neg (show ¬ nI s.length = Int32.ofNat N from fun e => eN ((nI_eq (by omega) (by omega)).mp e)), bq_44_74, pS_n D, Option.bind_some, h3.1, ci]
/-- drop -/
theorem c_sdrop {T0 MI a ka N : Nat} {M : xM} {key : Int32} {s : List Int32} (D : a ≠ ka) (hN : N ≤ 1000) (hs : s.length ≤ N) : ∀ m i, i + m = s.length → ∀ (q : xrho), q.1 25 0 = nI s.length → (∀ j (h : j < s.length), i ≤ j → q.1 26 j = s[j]) → (∀ j, j < (dropK id key (s.take i)).length → (dropK id key (s.take i))[j]? = some (q.1 26 j)) → ∃ q', xZ T0 MI 45 4 [some (vr (some a)), some (vi key), some (vi (nI (dropK id key (s.take i)).length)), some (vi (nI i))] [] (pSq a ka N q M) = some (none, pSq a ka N q' M) ∧ q'.1 25 0 = nI (dropK id key s).length ∧ ∀ j, j < (dropK id key s).length → (dropK id key s)[j]? = some (q'.1 26 j) := by
  intro m
  induction m with
  | zero =>
    intro i hi q h25 h26 hr
    rw [List.take_of_length_le (by omega)] at hr ⊢
    refine ⟨rup q 25 0 (nI (dropK id key s).length), ?_, rup_at _ _ _ _, hr⟩
    simp (decide := true) (disch := omega) only [bq_45_4, Option.bind_some, xasI, xasL, xasR, xin_t, cond_true, cond_false, nI_clamp, k_0, k_1, k_2, k_3, k_4, k_5, k_6, k_40, k_60, k_500, k_10000, pk_mul, nI_add, nI_e0, nI_ee, nI_leI, nI_ltI, xbool0, xbool1, xbn0, xbn1, xb_0, xb_1, reduceIte, one0, Option.isNone_none, ne_eq, not_true_eq_false, not_false_eq_true, if_true, if_false, ite_not, Bool.true_and, Bool.and_true, pS_n D, h25]
    rw [if_pos (by omega), bq_45_43, pS_p D, Option.bind_some]
  | succ m ih =>
    intro i hi q h25 h26 hr
    have hii : i < s.length := by omega
    have hle : (dropK id key (s.take i)).length ≤ i := by
      refine Nat.le_trans dropK_len ?_
      rw [List.length_take]
      omega
    have htk : dropK id key (s.take (i + 1)) = dropK id key (s.take i) ++ (if s[i] = key then [] else [s[i]]) := by
      unfold dropK
      rw [take_s _ hii, List.filter_append]
      congr 1
      by_cases e : s[i] = key <;> simp [e]
    have st : xZ T0 MI 45 4 [some (vr (some a)), some (vi key), some (vi (nI (dropK id key (s.take i)).length)), some (vi (nI i))] [] (pSq a ka N q M) = if s[i] = key then xZ T0 MI 45 37 [some (vr (some a)), some (vi key), some (vi (nI (dropK id key (s.take i)).length)), some (vi (nI i))] [] (pSq a ka N q M) else xZ T0 MI 45 22 [some (vr (some a)), some (vi key), some (vi (nI (dropK id key (s.take i)).length)), some (vi (nI i))] [] (pSq a ka N q M) := by
      simp (decide := true) (disch := omega) only [bq_45_4, Option.bind_some, xasI, xasL, xasR, xin_t, cond_true, cond_false, nI_clamp, k_0, k_1, k_2, k_3, k_4, k_5, k_6, k_40, k_60, k_500, k_10000, pk_mul, nI_add, nI_e0, nI_ee, nI_leI, nI_ltI, xbool0, xbool1, xbn0, xbn1, xb_0, xb_1, reduceIte, one0, Option.isNone_none, ne_eq, not_true_eq_false, not_false_eq_true, if_true, if_false, ite_not, Bool.true_and, Bool.and_true, pS_n D, h25]
      rw [if_neg (by omega)]
      simp (decide := true) (disch := omega) only [bq_45_12, Option.bind_some, xasI, xasL, xasR, xin_t, cond_true, cond_false, nI_clamp, k_0, k_1, k_2, k_3, k_4, k_5, k_6, k_40, k_60, k_500, k_10000, pk_mul, nI_add, nI_e0, nI_ee, nI_leI, nI_ltI, xbool0, xbool1, xbn0, xbn1, xb_0, xb_1, reduceIte, one0, Option.isNone_none, ne_eq, not_true_eq_false, not_false_eq_true, if_true, if_false, ite_not, Bool.true_and, Bool.and_true, pS_1 D, pS_aI]
      rw [h26 i hii (Nat.le_refl _)]
    rw [st]
    by_cases e : s[i] = key
    · rw [if_pos e, bq_45_37, nI_s]
      rw [if_pos e, List.append_nil] at htk
      obtain ⟨q', e1, e2, e3⟩ := ih (i + 1) (by omega) q h25 (fun j h hj => h26 j h (by omega)) (by rw [htk]; exact hr)
      rw [htk] at e1
      exact ⟨q', e1, e2, e3⟩
    · rw [if_neg e]
      rw [if_neg e] at htk
      obtain ⟨q', e1, e2, e3⟩ := ih (i + 1) (by omega) (rup q 26 (dropK id key (s.take i)).length s[i]) h25 (fun j h hj => by rw [rup_nx _ _ _ _ (by omega)]; exact h26 j h (by omega)) (by
        rw [htk]
        intro j hj
        rw [List.length_append, List.length_singleton] at hj
        by_cases ej : j = (dropK id key (s.take i)).length
        · subst ej
          rw [rup_at]
          simp
        · rw [rup_nx _ _ _ _ (by omega), List.getElem?_append_left (by omega)]
          exact hr j (by omega))
      refine ⟨q', ?_, e2, e3⟩
      rw [htk, List.length_append, List.length_singleton] at e1
      have hv := h26 i hii (Nat.le_refl _)
      simp (decide := true) (disch := omega) only [bq_45_22, bq_45_37, Option.bind_some, xasI, xasL, xasR, xin_t, cond_true, cond_false, nI_clamp, k_0, k_1, k_2, k_3, k_4, k_5, k_6, k_40, k_60, k_500, k_10000, pk_mul, nI_add, nI_e0, nI_ee, nI_leI, nI_ltI, xbool0, xbool1, xbn0, xbn1, xb_0, xb_1, reduceIte, one0, Option.isNone_none, ne_eq, not_true_eq_false, not_false_eq_true, if_true, if_false, ite_not, Bool.true_and, Bool.and_true, pS_1 D, pS_aI, pS_sI, hv]
      exact e1
theorem oS_drop {T0 MI g a : Nat} {M : xM} {ow : xOw} {s : List Int32} {key : Int32} {o2 o3 : Option xV} (h : oKeys M ow g a s) : ∃ M', xZ T0 MI 45 0 [some (vr (some a)), some (vi key), o2, o3] [] M = some (none, M') ∧ oKeys M' ow g a (dropK id key s) ∧ stp (fun t => ¬ inP g 9 10 t) 0 0 ow M ow M' := by
  obtain ⟨ka, N, q, h1, h2, h3, h4, o, b⟩ := h
  have D : a ≠ ka := ow_ne o.1 o.2 (by simp)
  have hid := pSq_id h1 h2
  have hlen := h3.2.1
  have hdl := dropK_len (k := (id : Int32 → Int32)) (key := key) (l := s)
  obtain ⟨q', e1, e2, e3⟩ := c_sdrop (T0 := T0) (MI := MI) (M := M) (key := key) D h4.2.2 h4.1 s.length 0 (by omega) q h3.1 (fun j hj _ => PS_i h3 hj) (fun j hj => by simp [dropK] at hj)
  rw [hid] at e1
  refine ⟨pSq a ka N q' M, by rw [bq_45_0]; exact e1, oKeys_mk o b ⟨e2, by omega, ?_, dropK_srt h3.2.2.2⟩ ⟨by omega, h4.2.1, h4.2.2⟩, pSq_stp o⟩
  unfold sendV
  rw [nu_of e2 (by omega)]
  apply List.ext_getElem?
  intro j
  by_cases hj : j < (dropK id key s).length
  · rw [win_get hj, e3 j hj, show 500 * 0 + j = j by omega]
  · rw [List.getElem?_eq_none (by rw [win_len]; omega), List.getElem?_eq_none (by omega)]
/-- emptied -/
theorem oS_zero {g a : Nat} {M : xM} {ow : xOw} {s : List Int32} (h : oKeys M ow g a s) : ∃ M', xput M a 5 0 (vi (nI 0)) = some M' ∧ oKeys M' ow g a [] ∧ stp (fun t => ¬ inP g 9 10 t) 0 0 ow M ow M' := by
  obtain ⟨ka, N, q, h1, h2, h3, h4, o, b⟩ := h
  have D : a ≠ ka := ow_ne o.1 o.2 (by simp)
  have e := pS_p (N := N) (q := q) (M := M) D (nI 0)
  rw [pSq_id h1 h2] at e
  refine ⟨_, e, oKeys_mk o b ⟨rup_at _ _ _ _, by simp, ?_, by simp [srt]⟩ ⟨by simp, h4.2.1, h4.2.2⟩, pSq_stp o⟩
  unfold sendV
  rw [nu_of (rup_at _ _ _ _) (by decide)]
  rfl
/-- its size, and a place -/
theorem oS_at {g a : Nat} {M : xM} {ow : xOw} {s : List Int32} (h : oKeys M ow g a s) : ∃ ka N f, M.2.2 a = .inr (5, [vi (nI s.length), vr (some ka)]) ∧ M.2.2 ka = .inl (0, N, .inl f) ∧ s.length ≤ N ∧ N ≤ 1000 ∧ s.length < 500 ∧ (∀ j (hj : j < s.length), f j = s[j]) ∧ srt id s ∧ ow a = (g, 9) ∧ a < M.1 := by
  obtain ⟨ka, N, q, h1, h2, h3, h4, o, b⟩ := h
  exact ⟨ka, N, q.1 26, by rw [← h3.1]; exact h1, h2, h4.1, h4.2.2, h3.2.1, fun j hj => PS_i h3 hj, h3.2.2.2, o.1, b.1⟩
