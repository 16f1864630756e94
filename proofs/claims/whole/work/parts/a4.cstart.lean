/-! the class holds the start -/
def owS (X : Nat) : xOw := fun a => if a < X then (8, 0) else if a = X then (1, 0) else if a = X + 1 then (1, 1) else if a = X + 2 then (1, 2) else if a = X + 3 then (1, 3) else if a = X + 4 then (1, 5) else if a = X + 5 then (1, 7) else if a = X + 6 then (1, 9) else if a < X + 25 then (10 + (a - X - 7) / 3, (a - X - 7) % 3) else if a = X + 25 then (400, 0) else if a = X + 26 then (9999, 0) else (100, 0)
theorem oL_0 {T0 g pt a : Nat} {M : xM} {ow : xOw} (h : M.2.2 a = liC T0) (o : ow a = (g, pt)) (b : a < M.1) (T : tOK T0 M ow) : oList T0 M ow g pt a [] := by
  obtain ⟨t1, t2, f, t3⟩ := T
  exact ⟨T0, 0, 0, f, h, t3, ⟨by simp, by omega⟩, fun j hj => absurd hj (by simp), o, ⟨b, t1⟩, Or.inl ⟨rfl, rfl, t2⟩⟩
theorem mC_B {X T0 a : Nat} {f : Nat → xE} (h1 : a ≠ X) (h2 : a ≠ X + 2) (h3 : a < X + 25) : mC X T0 f a = mB X T0 6 f a := by
  unfold mC
  rw [if_neg h1, if_neg h2, if_neg (by omega), if_neg (by omega)]
theorem st_ho {T0 X s : Nat} {f : Nat → xE} {z : Nat → Option Nat} (hT : T0 < X) (aT : f T0 = .inl (3, 0, .inr (.inr z))) : tOK T0 (X + 27, s, mC X T0 f) (owS X) ∧ bnd (owS X) (X + 27, s, mC X T0 f) ∧ oHo T0 (X + 27, s, mC X T0 f) (owS X) X (fun i => X + 1 + i) (fun h => if h < 6 then some (X + 7 + 3 * h) else none) (va_up (fun _ => none) 0 (some (X + 25))) [] [] [] (nI 1) 0 0 (fun _ => 0) ∧ (∀ h, h < 6 → oHs T0 (X + 27, s, mC X T0 f) (owS X) h (X + 7 + 3 * h) (X + 8 + 3 * h) (X + 9 + 3 * h) (fun _ => none) 1 []) ∧ oPg (X + 27, s, mC X T0 f) (owS X) 0 (X + 25) (X + 26) 0 0 0 0 0 ∧ isSpot (X + 27, s, mC X T0 f) (owS X) (X + 26) (nI 0) 0 (nI 10000) 1 0 := by
  have T : tOK T0 (X + 27, s, mC X T0 f) (owS X) := by
    refine ⟨by show T0 < X + 27; omega, ?_, z, ?_⟩
    · unfold owS; rw [if_pos hT]
    · show mC X T0 f T0 = _
      rw [mC_B (by omega) (by omega) (by omega)]
      unfold mB
      rw [if_pos hT]
      exact aT
  have li : ∀ a, X + 2 < a → a < X + 6 → mC X T0 f a = liC T0 := fun a h1 h2 => by
    rw [mC_B (by omega) (by omega) (by omega)]
    unfold mB
    rw [if_neg (by omega), if_neg (by omega), if_neg (by omega), if_neg (by omega), if_pos h2]
  refine ⟨T, fun b hb => ?_, ⟨?_, ?_, ?_, ?_, ⟨?_, ?_, ?_, ?_⟩, ⟨?_, ?_, ?_, ?_⟩, oL_0 (li (X + 3) (by omega) (by omega)) ?_ ?_ T, oL_0 (li (X + 4) (by omega) (by omega)) ?_ ?_ T, oL_0 (li (X + 5) (by omega) (by omega)) ?_ ?_ T⟩, fun h hh => ?_, ⟨?_, ?_, ?_⟩, ⟨?_, ?_, ?_⟩⟩
  · have hb : b < X + 27 := hb
    show (owS X b).1 < 10000 + (X + 27)
    unfold owS
    by_cases c1 : b < X
    · rw [if_pos c1]; show 8 < _; omega
    · rw [if_neg c1]
      by_cases c2 : X + 7 ≤ b ∧ b < X + 25
      · rw [if_neg (by omega), if_neg (by omega), if_neg (by omega), if_neg (by omega), if_neg (by omega), if_neg (by omega), if_neg (by omega), if_pos c2.2]
        show 10 + (b - X - 7) / 3 < _
        omega
      · have : b = X ∨ b = X + 1 ∨ b = X + 2 ∨ b = X + 3 ∨ b = X + 4 ∨ b = X + 5 ∨ b = X + 6 ∨ b = X + 25 ∨ b = X + 26 := by omega
        rcases this with e | e | e | e | e | e | e | e | e <;> subst e <;> simp <;> omega
  · show mC X T0 f X = _
    unfold mC
    rw [if_pos rfl]
    rfl
  · show mC X T0 f (X + 1) = _
    rw [mC_B (by omega) (by omega) (by omega)]
    unfold mB
    rw [if_neg (by omega), if_neg (by omega), if_pos rfl]
  · show mC X T0 f (X + 2) = _
    unfold mC
    rw [if_neg (by omega), if_pos rfl]
  · show mC X T0 f (X + 6) = _
    rw [mC_B (by omega) (by omega) (by omega)]
    unfold mB
    rw [if_neg (by omega), if_neg (by omega), if_neg (by omega), if_neg (by omega), if_neg (by omega), if_pos rfl]
  · unfold owS; simp
  · show owS X (X + 1) = _
    unfold owS; simp
  · show owS X (X + 2) = _
    unfold owS; simp
  · show owS X (X + 6) = _
    unfold owS; simp
  · show X < X + 27; omega
  · show X + 1 < X + 27; omega
  · show X + 2 < X + 27; omega
  · show X + 6 < X + 27; omega
  · show owS X (X + 3) = _
    unfold owS; simp
  · show X + 3 < X + 27; omega
  · show owS X (X + 4) = _
    unfold owS; simp
  · show X + 4 < X + 27; omega
  · show owS X (X + 5) = _
    unfold owS; simp
  · show X + 5 < X + 27; omega
  · have c : ∀ j, j < 3 → mC X T0 f (X + 7 + 3 * h + j) = hsC X T0 h j ∧ owS X (X + 7 + 3 * h + j) = (10 + h, j) := fun j hj => by
      rw [mC_B (by omega) (by omega) (by omega)]
      unfold mB owS
      rw [if_neg (by omega), if_neg (by omega), if_neg (by omega), if_neg (by omega), if_neg (by omega), if_neg (by omega), if_pos (by omega), if_neg (by omega), if_neg (by omega), if_neg (by omega), if_neg (by omega), if_neg (by omega), if_neg (by omega), if_neg (by omega), if_neg (by omega), if_pos (by omega), show (X + 7 + 3 * h + j - X - 7) / 3 = h by omega, show (X + 7 + 3 * h + j - X - 7) % 3 = j by omega]
      exact ⟨rfl, rfl⟩
    have c0 := c 0 (by decide)
    have c1 := c 1 (by decide)
    have c2 := c 2 (by decide)
    rw [Nat.add_zero] at c0
    rw [show X + 7 + 3 * h + 1 = X + 8 + 3 * h by omega] at c1
    rw [show X + 7 + 3 * h + 2 = X + 9 + 3 * h by omega] at c2
    exact ⟨c0.1, c1.1, ⟨c0.2, c1.2⟩, ⟨by show X + 7 + 3 * h < X + 27; omega, by show X + 8 + 3 * h < X + 27; omega⟩, oL_0 c2.1 c2.2 (by show X + 9 + 3 * h < X + 27; omega) T⟩
  · show mC X T0 f (X + 25) = _
    unfold mC
    rw [if_neg (by omega), if_neg (by omega), if_pos rfl]
    rfl
  · show owS X (X + 25) = _
    unfold owS; simp
  · show X + 25 < X + 27; omega
  · show mC X T0 f (X + 26) = _
    unfold mC
    rw [if_neg (by omega), if_neg (by omega), if_neg (by omega), if_pos rfl]
    rfl
  · show owS X (X + 26) = _
    unfold owS; simp
  · show X + 26 < X + 27; omega
theorem c_newC {T0 MI s : Nat} {M : xM} {z : Nat → Option Nat} (hT : T0 < M.1) (aT : M.2.2 T0 = .inl (3, 0, .inr (.inr z))) (hs : M.2.1 = s) : ∃ M' ow', xZ T0 MI 64 0 [some (vr (some M.1)), none] [] (xnewO M 11) = some (none, M') ∧ RepE T0 M.1 0 qS L00 M' ow' ∧ tOK T0 M' ow' ∧ M.1 < M'.1 ∧ M'.1 ≤ M.1 + 40 ∧ M'.2.1 ≤ s + 700 ∧ ∀ a, a < M.1 → ow' a = (8, 0) ∧ M'.2.2 a = M.2.2 a := by
  obtain ⟨X, s0, f⟩ := M
  have hT : T0 < X := hT
  have aT : f T0 = .inl (3, 0, .inr (.inr z)) := aT
  have hs : s0 = s := hs
  subst hs
  have e0 : xnewO (X, s0, f) 11 = (X + 1, s0 + 9, va_up f X (.inr (11, xdef 11))) := rfl
  show ∃ M' ow', xZ T0 MI 64 0 [some (vr (some X)), none] [] (xnewO (X, s0, f) 11) = some (none, M') ∧ RepE T0 X 0 qS L00 M' ow' ∧ tOK T0 M' ow' ∧ X < M'.1 ∧ M'.1 ≤ X + 40 ∧ M'.2.1 ≤ s0 + 700 ∧ ∀ a, a < X → ow' a = (8, 0) ∧ M'.2.2 a = f a
  rw [e0, k_A (va_up_self _ _ _), k_0]
  generalize hf : va_up f X (.inr (11, xdef 11)) = f1
  have lo : ∀ a, a < X → f1 a = f a := fun a h => by rw [← hf, va_up_ne _ _ (by omega)]
  have kb := k_Bs (T0 := T0) (MI := MI) (X := X) (f := f1) 6 0 (s0 + 9 + 62) (by decide)
  rw [show X + 7 + 3 * 0 = X + 7 by omega] at kb
  rw [kb, k_C]
  generalize hS : s0 + 9 + 62 + 47 * 6 + 11 = s1
  obtain ⟨T, bn, ho, hh, pg, sp⟩ := st_ho (s := s1) hT ((lo T0 hT).trans aT)
  have loC : ∀ a, a < X → mC X T0 f1 a = f a := fun a h => by
    rw [mC_B (by omega) (by omega) (by omega)]
    unfold mB
    rw [if_pos h, lo a h]
  have loW : ∀ a, a < X → owS X a = (8, 0) := fun a h => by unfold owS; rw [if_pos h]
  generalize hM : ((X + 27, s1, mC X T0 f1) : xM) = MC at *
  have m1 : MC.1 = X + 27 := by rw [← hM]
  have m2 : MC.2.1 = s1 := by rw [← hM]
  have m3 : ∀ a, a < X → MC.2.2 a = f a := fun a h => by rw [← hM]; exact loC a h
  have n1 := fun P => newO_stp P (owS X) MC 2 (100, 0) (fun _ => by show 100 < _; omega)
  have c1 : (xnewO MC 2).2.2 MC.1 = .inr (2, xdef 2) := newO_at _ _
  obtain ⟨M2, ow2, ra, ka, sa, r2, oh2, s2⟩ := oH_new (T0 := T0) (MI := MI) (g := 100) c1 (va_up_self _ _ _) (Nat.lt_succ_self _)
  rw [← m1, r2, Option.bind_some]
  show ∃ M' ow', xZ T0 MI 64 130 [some (vr (some X)), some (vi (nI 6))] [vr (some MC.1)] M2 = some (none, M') ∧ _
  have cl2 : xcls M2 MC.1 2 = true := by
    unfold xcls
    rw [oh2.1]
    rfl
  obtain ⟨M3, r3, oh3, s3⟩ := c_beW (T0 := T0) (MI := MI) (x := Int32.ofInt 0) (y := Int32.ofInt 10000) (z := Int32.ofInt 1) oh2
  rw [bq_64_130, cl2, cond_true, r3, Option.bind_some]
  show ∃ M' ow', xZ T0 MI 64 140 [some (vr (some X)), some (vr (some MC.1))] [] M3 = some (none, M') ∧ _
  have S3 : stp (off 100) 11 250 (owS X) MC ow2 M3 := stp_w (stp_tr (n1 (off 100)) (stp_tr s2 s3)) (fun _ h => h) (by decide) (by decide)
  have ho3 := oHo_f ho S3 (fun t h => by show t.1 ≠ 100; omega) (fun t h => by show t.1 ≠ 100; omega)
  have hh3 : ∀ h, h < 6 → oHs T0 M3 ow2 h (X + 7 + 3 * h) (X + 8 + 3 * h) (X + 9 + 3 * h) (fun _ => none) 1 [] := fun h hh' => oHs_f (hh h hh') S3 (fun t e => by show t.1 ≠ 100; omega) (fun t e => by show t.1 ≠ 100; omega)
  have pg3 := oPg_f pg S3 (fun t h => by show t.1 ≠ 100; omega)
  have sp3 := isSpot_f sp S3 (fun t h => by show t.1 ≠ 100; omega)
  have T3 := tOK_f T S3 (fun t h => by show t.1 ≠ 100; omega)
  have b3 := S3.2.1.2 bn
  obtain ⟨a1, a2, ⟨a3, a4⟩, ⟨a5, a6⟩, a7⟩ := hh3 0 (by decide)
  have a2' : M3.2.2 (X + 8) = .inl (6, 40, .inr (.inr fun _ => none)) := a2
  have a4' : ow2 (X + 8) = (10, 1) := a4
  have may : xmayR M3 6 (some MC.1) = true := by
    unfold xmayR xclsO
    simp only [oh3.1]
    rfl
  have x0 : xin (Int32.ofInt 0) 6 = true := by decide
  have x1 : xin (Int32.ofInt 0) 40 = true := by decide
  have x2 : (Int32.ofInt 0).toNatClampNeg = 0 := by decide
  rw [bq_64_140, gR ho3.1 0 rfl, Option.bind_some, Option.bind_some, aR ho3.2.1 rfl, x0, cond_true, Option.bind_some, x2]
  rw [if_pos (by decide), Option.bind_some, gR a1 2 rfl, Option.bind_some, Option.bind_some]
  rw [show X + 8 + 3 * 0 = X + 8 by omega, sR a2' rfl, x1, may, Bool.true_and, cond_true, Option.bind_some, x2]
  have s4 : stp (fun t => t ≠ (10, 1)) 0 0 ow2 M3 ow2 (xset M3 (X + 8) (.inl (6, 40, .inr (.inr (va_up (fun _ => none) 0 (some MC.1)))))) := stp_set (by rw [a4']; exact fun h => h rfl)
  have c8 : (xset M3 (X + 8) (.inl (6, 40, .inr (.inr (va_up (fun _ => none) 0 (some MC.1)))))).2.2 (X + 8) = .inl (6, 40, .inr (.inr (va_up (fun _ => none) 0 (some MC.1)))) := xset_at _ _ _
  have e4 : (xset M3 (X + 8) (.inl (6, 40, .inr (.inr (va_up (fun _ => none) 0 (some MC.1)))))).1 = M3.1 ∧ (xset M3 (X + 8) (.inl (6, 40, .inr (.inr (va_up (fun _ => none) 0 (some MC.1)))))).2.1 = M3.2.1 := ⟨rfl, rfl⟩
  refine ⟨_, ow2, rfl, ?_, ?_, ?_, ?_, ?_, ?_⟩
  · have z : ∀ {k i : Nat}, k ≠ 0 ∧ k ≠ 9 ∧ k ≠ 2 ∧ k ≠ 4 ∧ k ≠ 5 ∧ k ≠ 7 ∧ k ≠ 12 ∧ k ≠ 15 ∧ k ≠ 17 ∧ k ≠ 18 → qS.1 k i = 0 ∧ nu qS k i = 0 := fun h => ⟨qS_z _ (Or.inl h), (qS_n (b := 0) (Or.inl h)).2⟩
    obtain ⟨q2, q3, q4, q5, q6, q7, q12, q15, q16, q17, q18⟩ := qS_at
    have gi : ∀ h, gix qS h = [] := fun h => by unfold gix; rw [(z (by decide)).2]; rfl
    have gv : ∀ M ow h, gvT M ow [] qS h := fun M ow h => by
      unfold gvT
      rw [gi h]
      exact ⟨rfl, fun j h1 => absurd h1 (by simp)⟩
    have non : ∀ M ow p, p ≠ 0 → rHold M ow none p qS L00 (fun _ => none) := fun M ow p hp => ⟨qS_z _ (Or.inr ⟨by decide, by decide, hp⟩), (z (by decide)).1, (z (by decide)).1⟩
    have hd : rHold M3 ow2 (some MC.1) 0 qS L00 (fun _ => none) := by
      refine ⟨ra, ka, sa, _, none, [], fun _ => [], [], oh3, ⟨?_, ?_, ?_⟩, fun e => ?_, fun _ => ⟨⟨?_, ?_, ?_⟩, rfl, fun c _ => rfl⟩, fun e => ?_, fun e => ?_, fun e => ?_⟩
      · rw [q15]; rfl
      · rw [(z (by decide)).1]; rfl
      · rw [(z (by decide)).1]; rfl
      · rw [q15] at e; exact absurd e (by decide)
      · rw [q16]; rfl
      · rw [q17]; rfl
      · rw [q18]; rfl
      · rw [q15] at e; exact absurd e (by decide)
      · rw [q15] at e; exact absurd e (by decide)
      · rw [q15] at e; exact absurd e (by decide)
    have ob : obits qS 0 = 0 := obits_0.mpr (fun k hk => by rw [qS_9, if_pos (by omega)]; decide)
    refine ⟨fun i => X + 1 + i, fun h => if h < 6 then some (X + 7 + 3 * h) else none, va_up (fun _ => none) 0 (some (X + 25)), [], [], [], fun _ => 0, fun _ => none, s4.2.1.2 b3, ⟨fun _ => 0, ?_, fun i _ => (z (by decide)).1.symm⟩, fun h hh' => ?_, fun r hr => ?_, ⟨(z (by decide)).2.symm, fun c hc => absurd hc (by simp)⟩, fun c j hc => ?_, ⟨(z (by decide)).2.symm, fun c hc => absurd hc (by simp)⟩, ⟨(z (by decide)).2.symm, fun c hc => absurd hc (by simp)⟩⟩
    · rw [q12, (z (by decide)).1, (z (by decide)).1]
      exact oHo_f ho3 s4 (fun t h e => by rw [e] at h; exact absurd h (by decide)) (fun t h e => by rw [e] at h; exact absurd h (by decide))
    · have up : qS.1 0 h = 1 := by rw [qS_0, if_pos hh']
      by_cases c : h = 0
      · subst c
        refine ⟨X + 7, va_up (fun _ => none) 0 (some MC.1), if_pos (by decide), ⟨X + 8, X + 9, [], ⟨?_, c8, ⟨a3, a4'⟩, ⟨a5, a6⟩, ?_⟩, gv _ _ _⟩, fun r hr => ?_⟩
        · rw [up, xset_ne _ _ (by omega)]
          exact a1
        · exact oList_f a7 s4 (fun t h e => by rw [e] at h; exact absurd h.2.1 (by decide)) (fun t h e => by rw [e] at h; exact absurd h (by decide))
        · by_cases e : r = 0
          · subst e
            rw [va_up_self]
            exact rHold_f hd s4 (fun t h e => by rw [e] at h; exact absurd h (by decide)) (hs_rf _ _ _ _)
          · rw [va_up_ne _ _ e]
            exact non _ _ _ (by omega)
      · refine ⟨X + 7 + 3 * h, fun _ => none, if_pos hh', ⟨X + 8 + 3 * h, X + 9 + 3 * h, [], ?_, gv _ _ _⟩, fun r hr => non _ _ _ (by omega)⟩
        rw [up]
        exact oHs_f (hh3 h hh') s4 (fun t h e => by rw [e] at h; have h : 10 = 10 + _ := h; omega) (fun t h e => by rw [e] at h; exact absurd h (by decide))
    · by_cases c : r = 0
      · subst c
        rw [va_up_self]
        refine ⟨q2, X + 26, 0, 0, 0, ?_, ?_, fun _ => rfl, fun h => ?_, fun _ h => absurd ob h⟩
        · rw [ob, (z (by decide)).1]
          exact oPg_f pg3 s4 (fun t h e => by rw [e] at h; exact absurd h (by decide))
        · rw [q3, q4, q5, q6]
          exact isSpot_f sp3 s4 (fun t h e => by rw [e] at h; exact absurd h (by decide))
        · rw [q7] at h
          exact absurd (by decide) h
      · rw [va_up_ne _ _ c]
        exact qS_z _ (Or.inr ⟨by decide, by decide, c⟩)
    · rw [(z (by decide)).2] at hc
      exact absurd hc (Nat.not_lt_zero _)
  · exact tOK_f T3 s4 (fun t h e => by rw [e] at h; exact absurd h (by decide))
  · rw [e4.1]; have := S3.1; omega
  · rw [e4.1]; have := S3.2.1.1; omega
  · rw [e4.2]; have := S3.2.2.1; omega
  · intro a ha
    have f1 := S3.2.2.2 a (by omega)
    have f2 := s4.2.2.2 a (by have := S3.1; omega)
    have w := loW a ha
    refine ⟨f1.1.trans w, (f2.2 ?_).trans ((f1.2 ?_).trans (m3 a ha))⟩
    · rw [f1.1, w]; decide
    · rw [w]; decide
