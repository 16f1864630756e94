/-! THE LAW'S LOOP -/
theorem sc_l {M : xM} {b Ln : Nat} {xs : Nat → Int32} (h : M.2.2 b = .inl (9, Ln, .inl xs)) : xlenA M b = some (nI Ln) := by
  unfold xlenA
  rw [h]
  rfl
theorem law_sw {N0 T0 MI X B b Ln n : Nat} {xs : Nat → Int32} {M : xM} (hL : Ln ≤ 4096) (hn : 8 * n + 8 ≤ Ln) (S : LwS N0 T0 X B b Ln xs n M) : ∃ M2, LwS N0 T0 X B b Ln xs (n + 1) M2 ∧ xZ T0 MI 222 27 (lp b X B n) [] M = xZ T0 MI 222 905 (lp b X B n) [] M2 := by
  have b0 : M.2.2 b = .inl (9, Ln, .inl xs) := by
    obtain ⟨ow, q, L, D⟩ := S
    exact (LS_sc D).2.2
  have up : LwS N0 T0 X B b Ln xs (n + 1) M := by
    obtain ⟨ow, q, L, D⟩ := S
    exact LS_up D
  have e : xZ T0 MI 222 27 (lp b X B n) [] M = if (xs (8 * n) &&& (Int32.ofInt 31)).toInt < 0 ∨ 22 < (xs (8 * n) &&& (Int32.ofInt 31)).toInt then xZ T0 MI 222 905 (lp b X B n) [] M else ((#[107, 120, 247, 280, 324, 347, 390, 423, 446, 479, 512, 535, 558, 581, 604, 627, 660, 693, 736, 780, 803, 816, 849] : Array Int)[((xs (8 * n) &&& (Int32.ofInt 31)).toInt - 0).toNat]?).bind fun f_3 => xZ T0 MI 222 (((33 : Nat) : Int) + f_3).toNat (lp b X B n) [] M := by
    unfold lp
    rw [bq_222_27, Option.bind_some, sc_0 b0 hL (by omega), Option.bind_some]
  rw [e]
  generalize (xs (8 * n) &&& (Int32.ofInt 31)).toInt = z
  by_cases c : z < 0 ∨ 22 < z
  · rw [if_pos c]
    exact ⟨M, up, rfl⟩
  · rw [if_neg c]
    have cs : z = 0 ∨ z = 1 ∨ z = 2 ∨ z = 3 ∨ z = 4 ∨ z = 5 ∨ z = 6 ∨ z = 7 ∨ z = 8 ∨ z = 9 ∨ z = 10 ∨ z = 11 ∨ z = 12 ∨ z = 13 ∨ z = 14 ∨ z = 15 ∨ z = 16 ∨ z = 17 ∨ z = 18 ∨ z = 19 ∨ z = 20 ∨ z = 21 ∨ z = 22 := by omega
    rcases cs with h | h | h | h | h | h | h | h | h | h | h | h | h | h | h | h | h | h | h | h | h | h | h <;> subst h
    · exact W_caller hL hn S
    · exact W_call hL hn S
    · exact W_again hL hn S
    · exact W_answer hL hn S
    · exact W_learn hL hn S
    · exact W_copy hL hn S
    · exact W_move hL hn S
    · exact W_undo hL hn S
    · exact W_split hL hn S
    · exact W_merge hL hn S
    · exact W_step hL hn S
    · exact W_deliver hL hn S
    · exact W_lose hL hn S
    · exact W_fall hL hn S
    · exact W_rise hL hn S
    · exact W_letter hL hn S
    · exact W_range hL hn S
    · exact W_at hL hn S
    · exact W_row hL hn S
    · exact W_weight hL hn S
    · exact W_plan hL hn S
    · exact W_order hL hn S
    · exact W_status hL hn S
theorem phi_1200 : phi 1200 = 1680000 := by decide
theorem law_end {N0 T0 X B b Ln n : Nat} {xs : Nat → Int32} {M : xM} (hn : n ≤ 512) (S : LwS N0 T0 X B b Ln xs n M) : M.1 - N0 ≤ 590000 ∧ M.2.1 ≤ 7300000 := by
  obtain ⟨ow, q, L, D⟩ := S
  obtain ⟨-, P, -, -, -, -, -, d1, d2⟩ := D
  have l := P.2.1.2.2.1.2
  have p := phi_mono l
  rw [phi_1200] at p
  omega
theorem law_go {N0 T0 MI X B b Ln : Nat} {xs : Nat → Int32} (hL : Ln ≤ 4096) : ∀ (m n : Nat) (M : xM), n ≤ 512 → Ln < 8 * n + 8 + 8 * m → LwS N0 T0 X B b Ln xs n M → ∃ M', xZ T0 MI 222 18 (lp b X B n) [] M = some (some (vi 1), M') ∧ M'.1 - N0 ≤ 590000 ∧ M'.2.1 ≤ 7300000 := by
  intro m
  induction m with
  | zero =>
    intro n M hn h S
    have b0 : M.2.2 b = .inl (9, Ln, .inl xs) := by
      obtain ⟨ow, q, L, D⟩ := S
      exact (LS_sc D).2.2
    refine ⟨M, ?_, law_end hn S⟩
    unfold lp
    rw [bq_222_18, Option.bind_some, sc_l b0, Option.bind_some, if_pos, bq_222_911]
    · rfl
    · rw [Int32.lt_iff_toInt_lt, show Int32.ofInt 8 = nI 8 from rfl, toInt_sub (by omega) (by decide), nI_toInt (by omega)]
      omega
  | succ m ih =>
    intro n M hn h S
    have b0 : M.2.2 b = .inl (9, Ln, .inl xs) := by
      obtain ⟨ow, q, L, D⟩ := S
      exact (LS_sc D).2.2
    by_cases c : Ln < 8 * n + 8
    · refine ⟨M, ?_, law_end hn S⟩
      unfold lp
      rw [bq_222_18, Option.bind_some, sc_l b0, Option.bind_some, if_pos, bq_222_911]
      · rfl
      · rw [Int32.lt_iff_toInt_lt, show Int32.ofInt 8 = nI 8 from rfl, toInt_sub (by omega) (by decide), nI_toInt (by omega)]
        omega
    · obtain ⟨M2, S2, e2⟩ := law_sw (MI := MI) hL (by omega) S
      obtain ⟨M', e3, r⟩ := ih (n + 1) M2 (by omega) (by omega) S2
      refine ⟨M', ?_, r⟩
      have e1 : xZ T0 MI 222 18 (lp b X B n) [] M = xZ T0 MI 222 27 (lp b X B n) [] M := by
        unfold lp
        rw [bq_222_18, Option.bind_some, sc_l b0, Option.bind_some, if_neg]
        rw [Int32.lt_iff_toInt_lt, show Int32.ofInt 8 = nI 8 from rfl, toInt_sub (by omega) (by decide), nI_toInt (by omega)]
        omega
      rw [e1, e2]
      unfold lp
      rw [bq_222_905, show Int32.ofInt 8 = nI 8 from rfl, nI_add, show 8 * n + 8 = 8 * (n + 1) by omega]
      exact e3
theorem szs82 : szs 82 ≤ 700000 := by decide +kernel
theorem law_ok : xLawOk := by
  intro N0 T0 MI b Ln xs hT hb hbT hL
  have aT : (xM0 N0 T0 b Ln xs).2.2 T0 = .inl (3, 0, .inr (.inr fun _ => none)) := by
    show (if T0 < N0 then xFo T0 b Ln xs T0 else xjunk) = _
    rw [if_pos hT]
    unfold xFo
    rw [if_pos rfl]
  have ab : (xM0 N0 T0 b Ln xs).2.2 b = .inl (9, Ln, .inl xs) := by
    show (if b < N0 then xFo T0 b Ln xs b else xjunk) = _
    rw [if_pos hb]
    unfold xFo
    rw [if_neg hbT, if_pos rfl]
  obtain ⟨M1, ow1, r1, R1, T1, g1, g2, g3, g4⟩ := c_newC (T0 := T0) (MI := MI) (M := xM0 N0 T0 b Ln xs) (s := 0) hT aT rfl
  have m0 : (xM0 N0 T0 b Ln xs).1 = N0 := rfl
  rw [m0] at R1 g1 g2 g4
  have r2 := c_newR (T0 := T0) (MI := MI) (M := M1) (o1 := none)
  have hz := szs82
  have bb := N_bds qS_N.1 (by decide)
  have st : stp (fun t => t.1 ≠ 7) 83 (91 + szs 82) ow1 M1 (fun a => if M1.1 ≤ a ∧ a < M1.1 + 83 then (7, 0) else ow1 a) (rput M1.1 qS (M1.1 + 83, M1.2.1 + 91 + szs 82, M1.2.2)) := by
    refine ⟨by show M1.1 ≤ M1.1 + 83; omega, ⟨by show M1.1 + 83 ≤ M1.1 + 83; omega, fun h a ha => ?_⟩, by show M1.2.1 + 91 + szs 82 ≤ M1.2.1 + (91 + szs 82); omega, fun a ha => ⟨if_neg (by omega), fun _ => r_out _ _ _ (Or.inl ha)⟩⟩
    have ha : a < M1.1 + 83 := ha
    show (if M1.1 ≤ a ∧ a < M1.1 + 83 then (7, 0) else ow1 a : Nat × Nat).1 < 10000 + (M1.1 + 83)
    by_cases c : M1.1 ≤ a ∧ a < M1.1 + 83
    · rw [if_pos c]
      show 7 < _
      omega
    · rw [if_neg c]
      have := h a (by omega)
      omega
  have S : LwS N0 T0 N0 M1.1 b Ln xs 0 (rput M1.1 qS (M1.1 + 83, M1.2.1 + 91 + szs 82, M1.2.2)) := by
    have e82 : nu qS 82 0 = 0 := qS_82
    have gb := g4 b hb
    refine ⟨_, qS, L00, RepE_7 R1 bb st, ⟨qS_P, qS_N⟩, qS_L, rput_2 _ _ qS _, ⟨Nat.le_refl _, fun a h1 h2 => by rw [if_pos ⟨h1, h2⟩]⟩, tOK_f T1 st (fun t h => by omega), ⟨by show b < M1.1 + 83; omega, ?_, ?_⟩, ?_, ?_⟩
    · show (if M1.1 ≤ b ∧ b < M1.1 + 83 then (7, 0) else ow1 b : Nat × Nat).1 = 8
      rw [if_neg (by omega), gb.1]
    · rw [r_out _ _ _ (Or.inl (by omega))]
      exact gb.2.trans ab
    · show M1.1 + 83 ≤ _
      omega
    · show M1.2.1 + 91 + szs 82 ≤ _
      omega
  obtain ⟨M', e, h1, h2⟩ := law_go (MI := MI) hL 512 0 _ (by decide) (by omega) S
  refine ⟨M', ?_, h1, h2⟩
  rw [bq_222_0, r1, Option.bind_some]
  show xZ T0 MI 222 7 [some (vr (some b)), none, none, none] [vr (some N0)] M1 = _
  rw [bq_222_7, r2, Option.bind_some]
  show xZ T0 MI 222 15 [some (vr (some b)), some (vr (some N0)), none, none] [vr (some M1.1)] _ = _
  rw [bq_222_15]
  exact e
