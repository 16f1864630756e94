/-! letters that bear nothing more -/
def frL (q : xrho) : Prop := ∀ l, nu q 82 0 ≤ l → l < 1200 → q.1 65 l = 0 ∧ q.1 75 l = 0
theorem gnew_at (q : xrho) (l : Nat) (kd to fr rg ep : Int32) : (gnew q l kd to fr rg ep).1 60 l = kd ∧ (gnew q l kd to fr rg ep).1 61 l = to ∧ (gnew q l kd to fr rg ep).1 62 l = fr ∧ (gnew q l kd to fr rg ep).1 63 l = rg ∧ (gnew q l kd to fr rg ep).1 64 l = ep ∧ (gnew q l kd to fr rg ep).1 66 l = Int32.ofInt (-9) ∧ (gnew q l kd to fr rg ep).1 67 l = Int32.ofInt (-9) ∧ (gnew q l kd to fr rg ep).1 68 l = Int32.ofInt (-9) ∧ (gnew q l kd to fr rg ep).1 69 l = Int32.ofInt (-9) ∧ (gnew q l kd to fr rg ep).1 82 0 = nI (l + 1) := by
  unfold gnew
  simp (decide := true) only [rup_r, and_true, and_false, false_and, true_and, reduceIte, and_self]
theorem gnew_o (q : xrho) (l : Nat) (kd to fr rg ep : Int32) {k i : Nat} (h : ¬ (60 ≤ k ∧ k ≤ 69) ∨ k = 65 ∨ i ≠ l) (h82 : k ≠ 82) : (gnew q l kd to fr rg ep).1 k i = q.1 k i := by
  unfold gnew
  rw [rup_ne _ _ _ _ h82, rup_r, if_neg (by omega), rup_r, if_neg (by omega), rup_r, if_neg (by omega), rup_r, if_neg (by omega), rup_r, if_neg (by omega), rup_r, if_neg (by omega), rup_r, if_neg (by omega), rup_r, if_neg (by omega), rup_r, if_neg (by omega)]
theorem gnew_2 (q : xrho) (l : Nat) (kd to fr rg ep : Int32) : (gnew q l kd to fr rg ep).2 = q.2 := rfl
theorem R_post {T0 MI X n : Nat} {ad : Nat → Nat} {fh fp : Nat → Option Nat} {cl ll dl : List Nat} {aa : Nat → Nat} {pk : Nat → Option Nat} {q : xrho} {L : xLs} {M : xM} {ow : xOw} {kd fr to rg ep : Int32} {o6 : Option xV} (H : Rep T0 X n ad fh fp cl ll dl aa pk q L M ow) (B : bds q) (hl : ll.length < 1200) (hG : lastOK q) (hF : frL q) (hk : kd ≠ nI 0 ∧ kd ≠ nI 1 ∧ kd ≠ nI 2 ∧ kd ≠ nI 3) : ∃ M' ow' b, xZ T0 MI 101 0 [some (vr (some X)), some (vi kd), some (vi fr), some (vi to), some (vi rg), some (vi ep), o6] [] M = some (some (vr (some b)), M') ∧ Rep T0 X n ad fh fp cl (ll ++ [b]) dl aa (va_up pk ll.length none) (gnew q ll.length kd to fr rg ep) L M' ow' ∧ stp (fun t => t.1 ≠ 1) 2 (2 * ll.length + 26) ow M ow' M' := by
  have n82 : ll.length = nu q 82 0 := H.2.2.2.2.2.2.1.1
  obtain ⟨M', ow', e, h1, h2, s⟩ := c_post (T0 := T0) (MI := MI) (kd := kd) (fr := fr) (to := to) (rg := rg) (ep := ep) (o6 := o6) H.2.1 hl (le_objs H.2.2.2.2.2.2.1)
  obtain ⟨z1, z2⟩ := hF ll.length (by omega) hl
  obtain ⟨g0, g1, g2, g3, g4, g5, g6, g7, g8, g9⟩ := gnew_at q ll.length kd to fr rg ep
  refine ⟨M', ow', M.1, e, Rep_post (q' := gnew q ll.length kd to fr rg ep) H B hl hG (stp_w s (fun t ht => ht.1) (Nat.le_refl _) (Nat.le_refl _)) h1 ⟨_, _, _, _, h2, ?_⟩ (fun k i a b => gnew_o _ _ _ _ _ _ _ (Or.inl (by omega)) b) (fun k i a b c d => gnew_o _ _ _ _ _ _ _ (Or.inr (Or.inr (by omega))) (by omega)) (fun i hi => ⟨gnew_o _ _ _ _ _ _ _ (Or.inl (by omega)) (by decide), gnew_o _ _ _ _ _ _ _ (Or.inl (by omega)) (by decide), rfl⟩) (fun _ _ _ => rfl) (by unfold nu; rw [g9, nI_clamp (by omega)]) rfl rfl rfl (fun _ _ => rfl), stp_w s (fun t ht => by omega) (Nat.le_refl _) (Nat.le_refl _)⟩
  unfold leT
  rw [g0, g1, g2, g3, g4, g5, g6, g7, g8, gnew_o (k := 65) _ _ _ _ _ _ _ (Or.inr (Or.inl rfl)) (by decide), gnew_o (k := 75) _ _ _ _ _ _ _ (Or.inl (by decide)) (by decide), z1, z2]
  exact ⟨⟨rfl, rfl, rfl, rfl, rfl, rfl, rfl, rfl, rfl, rfl⟩, fun h => absurd h hk.2.2.2, fun h => absurd h hk.2.1, fun h => absurd h hk.1, fun h => absurd h hk.2.2.1, Or.inl ⟨rfl, rfl⟩⟩
