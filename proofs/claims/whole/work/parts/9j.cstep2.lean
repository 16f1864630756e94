/-! step, whole -/
theorem c_cntG {T0 MI h a ar gv : Nat} {M : xM} {ow : xOw} {f : Nat → Option Nat} {up : Int32} {gs : List Nat} {q : xrho} {L : xLs} {pk : Nat → Option Nat} (H : oHs T0 M ow h a ar gv f up gs) (hfs : ∀ r', r' < 40 → rHold M ow (f r') (40 * h + r') q L pk) : ∀ m r, r + m = 40 → ∀ acc o3, acc ≤ r → xZ T0 MI 31 4 [some (vr (some a)), some (vi (nI acc)), some (vi (nI r)), o3] [] M = some (some (vi (nI (acc + cGs q h r m))), M) := by
  obtain ⟨h1, h2, -⟩ := H
  intro m
  induction m with
  | zero =>
    intro r hr acc o3 ha
    have : r = 40 := by omega
    subst this
    rw [bq_31_4, k_40, if_pos (by decide), bq_31_37]
    rfl
  | succ m ih =>
    intro r hr acc o3 ha
    have hr40 : r < 40 := by omega
    have rd : xaR M ar (nI r) = some (f r) := by
      rw [aR h2 rfl, xin_t hr40 (by decide), cond_true, nI_clamp (by omega)]
    have hf := hfs r hr40
    rw [bq_31_4, k_40, if_neg (by rw [nI_leI (by omega) (by omega)]; omega), bq_31_10, gR h1 2 rfl, Option.bind_some, Option.bind_some, rd, Option.bind_some]
    show _ = some (some (vi (nI (acc + (cG q h r + cGs q h (r + 1) m)))), M)
    cases hfr : f r with
    | none =>
      rw [hfr] at hf
      have z15 : q.1 15 (40 * h + r) = 0 := hf.1
      have ec : cG q h r = 0 := by
        unfold cG
        rw [if_neg (by rw [z15]; decide)]
      rw [ec, Nat.zero_add, Option.isNone_none, cond_true, bq_31_31, nI_s, ih (r + 1) (by omega) acc _ (by omega)]
    | some b =>
      rw [hfr] at hf
      have st := hd_st hf
      rw [Option.isNone_some, cond_false, bq_31_21, Option.bind_some, st.2, cond_true, c_isGiven st.1]
      simp (decide := true) (disch := omega) only [Option.bind_some, xasI, xasL, xasR, xin_t, cond_true, cond_false, nI_clamp, k_0, k_1, k_2, k_3, k_4, k_5, k_6, k_40, k_60, k_500, k_10000, pk_mul, nI_add, nI_e0, nI_ee, nI_leI, nI_ltI, xbool0, xbool1, xbn0, xbn1, xb_0, xb_1, reduceIte, one0, Option.isNone_none, ne_eq, not_true_eq_false, not_false_eq_true, if_true, if_false, ite_not, Bool.true_and, Bool.and_true]
      rw [bq_31_25]
      by_cases g : q.1 15 (40 * h + r) = nI 2 ∨ q.1 15 (40 * h + r) = nI 3
      · have ec : cG q h r = 1 := by
          unfold cG
          rw [if_pos g]
        rw [tI_t g, if_neg one0, bq_31_28, bq_31_31, nI_s, nI_s, ih (r + 1) (by omega) (acc + 1) _ (by omega), ec, Nat.add_assoc]
      · have ec : cG q h r = 0 := by
          unfold cG
          rw [if_neg g]
        rw [tI_f g, if_pos rfl, bq_31_31, nI_s, ih (r + 1) (by omega) acc _ (by omega), ec, Nat.zero_add]
theorem cGs_s (q : xrho) (h : Nat) : ∀ m r m', cGs q h r (m + m') = cGs q h r m + cGs q h (r + m) m'
  | 0, r, m' => by rw [Nat.zero_add]; exact (Nat.zero_add _).symm
  | m + 1, r, m' => by
    rw [show m + 1 + m' = (m + m') + 1 by omega]
    show cG q h r + cGs q h (r + 1) (m + m') = cG q h r + cGs q h (r + 1) m + cGs q h (r + (m + 1)) m'
    rw [cGs_s q h m (r + 1) m', show r + 1 + m = r + (m + 1) by omega]
    omega
theorem cGs_z (q : xrho) (h : Nat) : ∀ m r, (∀ s, r ≤ s → s < r + m → q.1 15 (40 * h + s) = 0) → cGs q h r m = 0
  | 0, r, _ => rfl
  | m + 1, r, hz => by
    show cG q h r + cGs q h (r + 1) m = 0
    rw [cGs_z q h m (r + 1) (fun s h1 h2 => hz s (by omega) (by omega))]
    unfold cG
    rw [if_neg (by rw [hz r (by omega) (by omega)]; decide)]
theorem cGs_le (q : xrho) (h : Nat) : ∀ m r, cGs q h r m ≤ m
  | 0, _ => Nat.le_refl _
  | m + 1, r => by
    have := cGs_le q h m (r + 1)
    show cG q h r + cGs q h (r + 1) m ≤ m + 1
    have : cG q h r ≤ 1 := by unfold cG; split <;> omega
    omega
theorem cBs_le (q : xrho) : ∀ m r, cBs q r m ≤ 5 * m
  | 0, _ => Nat.le_refl _
  | m + 1, r => by
    have h1 := cBs_le q m (r + 1)
    have h2 := c4_le q r
    have h3 := cW_le q r
    have h4 := cB_4 q r
    show cB q r + cBs q (r + 1) m ≤ 5 * (m + 1)
    omega
theorem agv_o {q : xrho} {L : xLs} {h r : Nat} : (∀ p, p ≠ 40 * h + r → (agv q L h r).1.1 15 p = q.1 15 p) ∧ (agv q L h r).1.1 12 0 = q.1 12 0 := by
  unfold agv
  split
  · split
    · have en := nlq_ck (b := 3 * nu q 29 (40 * h + r)) (g1 := q.1 74) (g2 := q.1 76) (g3 := q.2 77) (nlq_up (x := q.1 69 (nu q 29 (40 * h + r))) (k := 69) (gpart_nl q h r (nu q 82 0)) (by decide))
      exact ⟨fun p hp => en.1 15 p (by decide) (by decide), en.1 12 0 (by decide) (by decide)⟩
    · split
      · have gn := gpart_nl (rup q 15 (40 * h + r) (nI 3)) h r (nu q 82 0)
        dsimp only
        unfold gends
        refine ⟨fun p hp => ?_, ?_⟩
        · rw [rup_ne _ _ _ _ (by decide), rup_ne _ _ _ _ (by decide), rup_ne _ _ _ _ (by decide), rup_ne _ _ _ _ (by decide), gn.1 15 p (by decide) (by decide), rup_r, if_neg (fun e => hp e.2)]
        · rw [rup_ne _ _ _ _ (by decide), rup_ne _ _ _ _ (by decide), rup_ne _ _ _ _ (by decide), rup_ne _ _ _ _ (by decide), gn.1 12 0 (by decide) (by decide), rup_ne _ _ _ _ (by decide)]
      · have gn := nlq_wr (acc := gvA (L.1 (40 * h + r)) (L.2.1 (40 * h + r))) (gpart_nl q h r (nu q 82 0))
        dsimp only
        unfold ggv
        refine ⟨fun p hp => ?_, ?_⟩
        · rw [rup_ne _ _ _ _ (by decide), rup_ne _ _ _ _ (by decide), rup_ne _ _ _ _ (by decide), rup_ne _ _ _ _ (by decide), gn.1 15 p (by decide) (by decide)]
        · rw [rup_ne _ _ _ _ (by decide), rup_ne _ _ _ _ (by decide), rup_ne _ _ _ _ (by decide), rup_ne _ _ _ _ (by decide), gn.1 12 0 (by decide) (by decide)]
  · split
    · split
      · have en := nlq_ck (b := 3 * nu q 29 (40 * h + r)) (g1 := q.1 74) (g2 := q.1 76) (g3 := q.2 77) (nlq_up (x := q.1 69 (nu q 29 (40 * h + r))) (k := 69) (gpart_nl q h r (nu q 82 0)) (by decide))
        exact ⟨fun p hp => en.1 15 p (by decide) (by decide), en.1 12 0 (by decide) (by decide)⟩
      · have en := nlq_new q (nu q 82 0) (nI 6) (nI 0) (nI h) (nI r) (q.1 18 (40 * h + r) + nI 1)
        exact ⟨fun p hp => en.1 15 p (by decide) (by decide), en.1 12 0 (by decide) (by decide)⟩
    · exact ⟨fun _ _ => rfl, rfl⟩
theorem R_gives {T0 MI X n h a : Nat} {ad : Nat → Nat} {fh fp : Nat → Option Nat} {cl dl : List Nat} {aa : Nat → Nat} {nn : Nat} {due : Int32} {o1 : Option xV} (hn : nn ≤ 40) (hh : h < 6) (ha : fh h = some a) : ∀ m r, r + m = nn → ∀ (M : xM) (ow : xOw) (ll : List Nat) (pk : Nat → Option Nat) (q : xrho) (L : xLs), Rep T0 X n ad fh fp cl ll dl aa pk q L M ow → gOK q → gvI q → q.1 12 0 = nI nn → ll.length + cGs q h r m ≤ 1200 → ∃ M' ow' ll' pk', xZ T0 MI 76 74 [some (vr (some X)), o1, some (vr (some a)), some (vi due), some (vi (nI r))] [] M = some (some (vi due), M') ∧ Rep T0 X n ad fh fp cl ll' dl aa pk' (agvs h r m q L).1 (agvs h r m q L).2 M' ow' ∧ psT ll.length ll'.length ow M ow' M' := by
  intro m
  induction m with
  | zero =>
    intro r hr M ow ll pk q L H G V h12 hl
    have mk := (ho_c H.2.1).2.2.2.2.2.2.2.1
    refine ⟨M, ow, ll, pk, ?_, H, psT_rf _ _ _⟩
    rw [bq_76_74, mk, Option.bind_some, h12, if_pos (by rw [nI_leI (by omega) (by omega)]; omega), bq_76_96]
  | succ m ih =>
    intro r hr M ow ll pk q L H G V h12 hl
    have mk := (ho_c H.2.1).2.2.2.2.2.2.2.1
    have hl : ll.length + (cG q h r + cGs q h (r + 1) m) ≤ 1200 := hl
    have n82 : ll.length = nu q 82 0 := H.2.2.2.2.2.2.1.1
    obtain ⟨M1, ow1, ll1, pk1, e1, H1, G1, s1, l1⟩ := R_give (T0 := T0) (MI := MI) (r := r) (o3 := none) (o4 := none) H G V hh (by omega) ha (by omega)
    have V1 := gvI_agv (L := L) V G hh (show r < 40 by omega) (by omega)
    have ao := agv_o (q := q) (L := L) (h := h) (r := r)
    have ce : ∀ m s, r < s → cGs (agv q L h r).1 h s m = cGs q h s m := by
      intro m
      induction m with
      | zero => intro s _; rfl
      | succ m ih =>
        intro s hs
        show cG (agv q L h r).1 h s + cGs (agv q L h r).1 h (s + 1) m = cG q h s + cGs q h (s + 1) m
        rw [ih (s + 1) (by omega)]
        unfold cG
        rw [ao.1 _ (by omega)]
    obtain ⟨M2, ow2, ll2, pk2, e2, H2, s2⟩ := ih (r + 1) (by omega) M1 ow1 ll1 pk1 (agv q L h r).1 (agv q L h r).2 H1 G1 V1 (by rw [ao.2]; exact h12) (by rw [ce _ _ (by omega)]; omega)
    refine ⟨M2, ow2, ll2, pk2, ?_, H2, psT_tr s1 s2⟩
    rw [bq_76_74, mk, Option.bind_some, h12, if_neg (by rw [nI_leI (by omega) (by omega)]; omega), bq_76_83, (ho_c H.2.1).1, cond_true, e1]
    simp (decide := true) (disch := omega) only [Option.bind_some, xasI, xasL, xasR, xin_t, cond_true, cond_false, nI_clamp, k_0, k_1, k_2, k_3, k_4, k_5, k_6, k_40, k_60, k_500, k_10000, pk_mul, nI_add, nI_e0, nI_ee, nI_leI, nI_ltI, xbool0, xbool1, xbn0, xbn1, xb_0, xb_1, reduceIte, one0, Option.isNone_none, ne_eq, not_true_eq_false, not_false_eq_true, if_true, if_false, ite_not, Bool.true_and, Bool.and_true]
    rw [bq_76_90, nI_s]
    exact e2
theorem abks_o : ∀ m r (q : xrho) {k : Nat}, k < 60 → (abks r m q).1 k = q.1 k
  | 0, _, _, _, _ => rfl
  | m + 1, r, q, k, hk => by
    show (abks (r + 1) m (abk1 q r)).1 k = q.1 k
    rw [abks_o m (r + 1) (abk1 q r) hk, abk1_ne (Or.inl hk) (by omega) (by omega)]
theorem P_step {T0 MI X n : Nat} {q : xrho} {L : xLs} {M : xM} {ow : xOw} {x : Int32} {o2 o3 o4 : Option xV} (H : RepE T0 X n q L M ow) (G : gOK q) (V : gvI q) (W : owI q) (hz : stz q) : ∃ M' ow', xZ T0 MI 76 0 [some (vr (some X)), some (vi x), o2, o3, o4] [] M = some (some (vi (astep q L x).1), M') ∧ RepE T0 X n (astep q L x).2.1 (astep q L x).2.2 M' ow' ∧ psT (nu q 82 0) (nu (astep q L x).2.1 82 0) ow M ow' M' := by
  have HE := H
  have B := G.1
  obtain ⟨ad, fh, fp, cl, ll, dl, aa, pk, H⟩ := H
  have n82 : ll.length = nu q 82 0 := H.2.2.2.2.2.2.1.1
  have hX := (ho_c H.2.1).1
  have rps : ∀ {i : Nat} {M' : xM}, stp ext 0 0 ow M ow M' → psT (nu q 82 0) (nu (gref q i) 82 0) ow M ow M' := fun {i M'} s => by
    have : nu (gref q i) 82 0 = nu q 82 0 := nu_e (by unfold gref; rw [rup_ne _ _ _ _ (by decide)])
    rw [this]
    exact ⟨(Nat.le_refl _), (Nat.le_refl _), stp_w s (fun _ h => h) (by omega) (by omega)⟩
  rw [bq_76_0, hX, cond_true, c_hostOf H.2.1]
  unfold astep
  cases hx : ix x 6 with
  | none =>
    obtain ⟨M', e, h, s⟩ := P_ref (MI := MI) (i := 1) (x := Int32.ofInt (-1)) HE B (by decide) rfl
    refine ⟨M', ow, ?_, h, rps s⟩
    simp (decide := true) (disch := omega) only [Option.bind_some, xasI, xasL, xasR, xin_t, cond_true, cond_false, nI_clamp, k_0, k_1, k_2, k_3, k_4, k_5, k_6, k_40, k_60, k_500, k_10000, pk_mul, nI_add, nI_e0, nI_ee, nI_leI, nI_ltI, xbool0, xbool1, xbn0, xbn1, xb_0, xb_1, reduceIte, one0, Option.isNone_none, ne_eq, not_true_eq_false, not_false_eq_true, if_true, if_false, ite_not, Bool.true_and, Bool.and_true, Option.bind_none, Option.isNone_none, bq_76_5, bq_76_10, hX, e, bq_76_15]
  | some h =>
    obtain ⟨hh, rfl, -⟩ := ix_some (by decide) hx
    obtain ⟨a, f, h1, ⟨ar, gv, gs, oh, -⟩, h6⟩ := H.2.2.1 h hh
    have b12 := B.2.2.2.1
    simp (decide := true) (disch := omega) only [Option.bind_some, xasI, xasL, xasR, xin_t, cond_true, cond_false, nI_clamp, k_0, k_1, k_2, k_3, k_4, k_5, k_6, k_40, k_60, k_500, k_10000, pk_mul, nI_add, nI_e0, nI_ee, nI_leI, nI_ltI, xbool0, xbool1, xbn0, xbn1, xb_0, xb_1, reduceIte, one0, Option.isNone_none, ne_eq, not_true_eq_false, not_false_eq_true, if_true, if_false, ite_not, Bool.true_and, Bool.and_true, h1, Option.isNone_some, bq_76_5, bq_76_16, gI oh.1 1 rfl]
    by_cases e0 : q.1 0 h = 0
    · obtain ⟨M', e, hR, s⟩ := P_ref (MI := MI) (i := 4) (x := Int32.ofInt (-4)) HE B (by decide) rfl
      rw [if_pos e0, if_pos e0]
      refine ⟨M', ow, ?_, hR, rps s⟩
      simp (decide := true) (disch := omega) only [Option.bind_some, xasI, xasL, xasR, xin_t, cond_true, cond_false, nI_clamp, k_0, k_1, k_2, k_3, k_4, k_5, k_6, k_40, k_60, k_500, k_10000, pk_mul, nI_add, nI_e0, nI_ee, nI_leI, nI_ltI, xbool0, xbool1, xbn0, xbn1, xb_0, xb_1, reduceIte, one0, Option.isNone_none, ne_eq, not_true_eq_false, not_false_eq_true, if_true, if_false, ite_not, Bool.true_and, Bool.and_true, bq_76_23, hX, e, bq_76_29]
    · rw [if_neg e0, if_neg e0]
      have cg := c_cntG (T0 := T0) (MI := MI) oh h6 40 0 (by omega) 0 none (Nat.le_refl _)
      have cz : cGs q h 0 40 = cGs q h 0 (nu q 12 0) := by
        have := b12.2
        rw [show (40 : Nat) = nu q 12 0 + (40 - nu q 12 0) by omega, cGs_s, cGs_z q h (40 - nu q 12 0), Nat.add_zero]
        intro s h1 h2
        exact hz h s hh (by omega) (by omega)
      rw [cz, Nat.zero_add] at cg
      have gl := cGs_le q h (nu q 12 0) 0
      have bl := cBs_le q (nu q 12 0) 0
      have cs := cS_eq q h (nu q 12 0) 0
      have cb := c_cntB (T0 := T0) (MI := MI) H b12 W (nu q 12 0) 0 (by omega) 0 none (Nat.le_refl _)
      rw [Nat.zero_add] at cb
      have b40 := b12.2
      -- to 46
      have st1 : xZ T0 MI 76 30 [some (vr (some X)), some (vi (nI h)), some (vr (some a)), o3, o4] [] M = xZ T0 MI 76 53 [some (vr (some X)), some (vi (nI h)), some (vr (some a)), some (vi (nI (cS q h 0 (nu q 12 0)))), o4] [vi (tI (ll.length + cS q h 0 (nu q 12 0) ≤ 1200))] M := by
        rw [bq_76_30, Option.bind_some, gC oh.1, cond_true, bq_31_0, k_0, cg]
        simp (decide := true) (disch := omega) only [Option.bind_some, xasI, xasL, xasR, xin_t, cond_true, cond_false, nI_clamp, k_0, k_1, k_2, k_3, k_4, k_5, k_6, k_40, k_60, k_500, k_10000, pk_mul, nI_add, nI_e0, nI_ee, nI_leI, nI_ltI, xbool0, xbool1, xbn0, xbn1, xb_0, xb_1, reduceIte, one0, Option.isNone_none, ne_eq, not_true_eq_false, not_false_eq_true, if_true, if_false, ite_not, Bool.true_and, Bool.and_true]
        rw [bq_76_34]
        by_cases h0 : h = 0
        · subst h0
          rw [if_pos rfl] at cs
          have er := c_hasRoom (T0 := T0) (MI := MI) (k := cS q 0 0 (nu q 12 0)) H.2.1 (by omega)
          rw [if_pos (show nI 0 = 0 from rfl), bq_76_38, hX, cond_true, bq_106_0, k_0, cb]
          simp (decide := true) (disch := omega) only [Option.bind_some, xasI, xasL, xasR, xin_t, cond_true, cond_false, nI_clamp, k_0, k_1, k_2, k_3, k_4, k_5, k_6, k_40, k_60, k_500, k_10000, pk_mul, nI_add, nI_e0, nI_ee, nI_leI, nI_ltI, xbool0, xbool1, xbn0, xbn1, xb_0, xb_1, reduceIte, one0, Option.isNone_none, ne_eq, not_true_eq_false, not_false_eq_true, if_true, if_false, ite_not, Bool.true_and, Bool.and_true]
          rw [bq_76_42, bq_76_46, nI_add, show cGs q 0 0 (nu q 12 0) + cBs q 0 (nu q 12 0) = cS q 0 0 (nu q 12 0) by omega, hX, cond_true, er]
          simp (decide := true) (disch := omega) only [Option.bind_some, xasI, xasL, xasR, xin_t, cond_true, cond_false, nI_clamp, k_0, k_1, k_2, k_3, k_4, k_5, k_6, k_40, k_60, k_500, k_10000, pk_mul, nI_add, nI_e0, nI_ee, nI_leI, nI_ltI, xbool0, xbool1, xbn0, xbn1, xb_0, xb_1, reduceIte, one0, Option.isNone_none, ne_eq, not_true_eq_false, not_false_eq_true, if_true, if_false, ite_not, Bool.true_and, Bool.and_true]
        · rw [if_neg h0] at cs
          have er := c_hasRoom (T0 := T0) (MI := MI) (k := cS q h 0 (nu q 12 0)) H.2.1 (by omega)
          rw [if_neg (show ¬ nI h = 0 by rw [nI_e0 (by omega)]; exact h0), bq_76_45, bq_76_46, k_0, nI_add, show cGs q h 0 (nu q 12 0) + 0 = cS q h 0 (nu q 12 0) by omega, hX, cond_true, er]
          simp (decide := true) (disch := omega) only [Option.bind_some, xasI, xasL, xasR, xin_t, cond_true, cond_false, nI_clamp, k_0, k_1, k_2, k_3, k_4, k_5, k_6, k_40, k_60, k_500, k_10000, pk_mul, nI_add, nI_e0, nI_ee, nI_leI, nI_ltI, xbool0, xbool1, xbn0, xbn1, xb_0, xb_1, reduceIte, one0, Option.isNone_none, ne_eq, not_true_eq_false, not_false_eq_true, if_true, if_false, ite_not, Bool.true_and, Bool.and_true]
      rw [st1, bq_76_53]
      by_cases hr : 1200 < nu q 82 0 + cS q h 0 (nu q 12 0)
      · obtain ⟨M', e, hR, s⟩ := P_ref (MI := MI) (i := 6) (x := Int32.ofInt (-6)) HE B (by decide) rfl
        rw [if_pos hr, tI_f (by omega), if_pos rfl]
        refine ⟨M', ow, ?_, hR, rps s⟩
        simp (decide := true) (disch := omega) only [Option.bind_some, xasI, xasL, xasR, xin_t, cond_true, cond_false, nI_clamp, k_0, k_1, k_2, k_3, k_4, k_5, k_6, k_40, k_60, k_500, k_10000, pk_mul, nI_add, nI_e0, nI_ee, nI_leI, nI_ltI, xbool0, xbool1, xbn0, xbn1, xb_0, xb_1, reduceIte, one0, Option.isNone_none, ne_eq, not_true_eq_false, not_false_eq_true, if_true, if_false, ite_not, Bool.true_and, Bool.and_true, bq_76_56, hX, e, bq_76_62]
      · rw [if_neg hr, tI_t (by omega), if_neg one0]
        unfold astB
        by_cases h0 : h = 0
        · subst h0
          rw [if_pos rfl] at cs
          obtain ⟨M1, ow1, ll1, pk1, e1, H1, G1, V1, s1, l1⟩ := R_pbook (T0 := T0) (MI := MI) b40 (nu q 12 0) 0 (by omega) M ow ll pk q none H G V W b12.1 (by omega)
          have ab : ∀ k, k < 60 → (abks 0 (nu q 12 0) q).1 k = q.1 k := fun k hk => abks_o _ _ _ hk
          have cge : ∀ m s, cGs (abks 0 (nu q 12 0) q) 0 s m = cGs q 0 s m := by
            intro m
            induction m with
            | zero => intro s; rfl
            | succ m ih =>
              intro s
              show cG _ 0 s + cGs _ 0 (s + 1) m = cG q 0 s + cGs q 0 (s + 1) m
              rw [ih (s + 1)]
              unfold cG
              rw [ab 15 (by decide)]
          obtain ⟨M2, ow2, ll2, pk2, e2, H2, s2⟩ := R_gives (T0 := T0) (MI := MI) (due := nI (cS q 0 0 (nu q 12 0))) (o1 := some (vi (nI 0))) b40 (by decide) h1 (nu q 12 0) 0 (by omega) M1 ow1 ll1 pk1 (abks 0 (nu q 12 0) q) L H1 G1 V1 (by rw [ab 12 (by decide)]; exact b12.1) (by rw [cge]; omega)
          rw [if_pos rfl]
          have n2 : ll2.length = nu (agvs 0 0 (nu q 12 0) (abks 0 (nu q 12 0) q) L).1 82 0 := H2.2.2.2.2.2.2.1.1
          refine ⟨M2, ow2, ?_, ⟨_, _, _, _, _, _, _, _, H2⟩, ?_⟩
          · rw [bq_76_63, if_pos (show nI 0 = 0 from rfl), bq_76_67, hX, cond_true, bq_107_0, k_0, e1]
            simp (decide := true) (disch := omega) only [Option.bind_some, xasI, xasL, xasR, xin_t, cond_true, cond_false, nI_clamp, k_0, k_1, k_2, k_3, k_4, k_5, k_6, k_40, k_60, k_500, k_10000, pk_mul, nI_add, nI_e0, nI_ee, nI_leI, nI_ltI, xbool0, xbool1, xbn0, xbn1, xb_0, xb_1, reduceIte, one0, Option.isNone_none, ne_eq, not_true_eq_false, not_false_eq_true, if_true, if_false, ite_not, Bool.true_and, Bool.and_true]
            rw [bq_76_71, k_0]
            exact e2
          · rw [← n82, ← n2]
            exact psT_tr s1 s2
        · rw [if_neg h0] at cs
          obtain ⟨M2, ow2, ll2, pk2, e2, H2, s2⟩ := R_gives (T0 := T0) (MI := MI) (due := nI (cS q h 0 (nu q 12 0))) (o1 := some (vi (nI h))) b40 hh h1 (nu q 12 0) 0 (by omega) M ow ll pk q L H G V b12.1 (by omega)
          rw [if_neg h0]
          have n2 : ll2.length = nu (agvs h 0 (nu q 12 0) q L).1 82 0 := H2.2.2.2.2.2.2.1.1
          refine ⟨M2, ow2, ?_, ⟨_, _, _, _, _, _, _, _, H2⟩, ?_⟩
          · rw [bq_76_63, if_neg (show ¬ nI h = 0 by rw [nI_e0 (by omega)]; exact h0), bq_76_71, k_0]
            exact e2
          · rw [← n82, ← n2]
            exact s2
