/-! the protocol is kept: sending again, and more -/
/-- a letter that says what an old one said -/
theorem pok_dup {q : xrho} {r : Nat} {B : Int} {x m : Nat → Int} (I : pv q r B) (hS : pS q r m) (hk : x 0 = 4 ∨ x 0 = 7) (k0 : x 0 = m 0) (k1 : x 1 = m 1) (k3 : x 3 = m 3) (hB : x 4 ≤ B ∧ x 5 ≤ B) (h4 : x 0 = 4 → x 4 = m 4 ∧ x 5 = m 5 ∧ x 6 = m 6 ∧ x 7 = m 7 ∧ x 8 = m 8) : pok q r B x := by
  have hm3 : 3 ≤ m 0 := by omega
  unfold pok pokM
  refine ⟨fun _ => ?_, fun _ => ⟨?_, hB⟩, fun e f => ?_, fun e => absurd e (by omega), fun e => absurd e (by omega), fun e => absurd e (by omega), fun e => absurd e (by omega), fun h e => ?_, fun m' h e => ?_, fun m' h e => ?_, fun e => absurd e (by omega), fun hT e f => ?_, fun _ e => absurd e (by omega), fun hT h hh h1 _ => ?_, fun hT h t hh hg ht e f => ?_, fun _ _ _ _ _ _ e => absurd e (by omega), fun hT h t hh hg ht he e f => ?_, fun _ _ _ _ e => absurd e (by omega)⟩
  · have a := Pin_f I m hS hm3
    rw [k3]
    exact ⟨a.1, fun e => by rw [(h4 e).2.1]; exact a.2 (by omega)⟩
  · rw [k3]
    exact (Pin_q3 I m hS hm3).1
  · rw [k1]
    exact Pin_h7 I m hS (by omega) (by omega)
  · rw [k1, k3]
    exact Pin_k1 I m h hS (by omega)
  · rw [k1, k3]
    exact fun a b => Pin_k2 I m m' h hS (by omega) a b
  · rw [k1, k3, (h4 e).1]
    exact fun a b c d => Pin_k2 I m' m h a b hS (by omega) c d
  · rw [k1, (h4 e).2.2.2.1, (h4 e).2.2.2.2]
    exact Pin_l4 I hT m hS (by omega) (by omega)
  · rw [k3]
    rcases hk with e | e
    · exact Pin_m1 I hT h hh h1 m hS (Or.inl (by omega))
    · omega
  · have z := h4 e
    rw [z.1, z.2.1, z.2.2.1]
    exact Pin_n1 I hT h t hh hg ht m hS (by omega) (by omega)
  · rw [(h4 e).1]
    exact (Pin_n5 I hT h t hh hg ht he).2 m hS (by omega) (by omega)
theorem V_abkO {q : xrho} {B : Int} {r k : Nat} (I : PIv q B) (n12 : nu q 12 0 ≤ 40) (hB : 0 ≤ B) (hn : ¬ q.1 9 (4 * r + k) < 0 → nu q 82 0 < 1200) (hr : r < nu q 12 0) (hk : k < 4) : PIv (abkO q r k) B := by
  unfold abkO
  by_cases c : q.1 9 (4 * r + k) < 0
  · rw [if_pos c]
    exact I
  · rw [if_neg c]
    have Ir := I.1 r hr
    have g : (ti q 9 (4 * r) < 0 ∨ ti q 9 (4 * r) = ti q 8 r) ∧ (ti q 9 (4 * r + 1) < 0 ∨ ti q 9 (4 * r + 1) = ti q 8 r) ∧ (ti q 9 (4 * r + 2) < 0 ∨ ti q 9 (4 * r + 2) = ti q 8 r) ∧ (ti q 9 (4 * r + 3) < 0 ∨ ti q 9 (4 * r + 3) = ti q 8 r) := Pin_g Ir
    have c' : ¬ ti q 9 (4 * r + k) < 0 := mt ti_lt0.mpr c
    have k4 : k = 0 ∨ k = 1 ∨ k = 2 ∨ k = 3 := by omega
    have hw : ti q 9 (4 * r + k) = ti q 8 r := by
      rcases k4 with e | e | e | e <;> subst e
      · exact g.1.resolve_left c'
      · exact g.2.1.resolve_left c'
      · exact g.2.2.1.resolve_left c'
      · exact g.2.2.2.resolve_left c'
    by_cases k0 : k = 0
    · subst k0
      obtain ⟨x0, x3, x1, x4, x5, x63⟩ := gow_f q r 0 (nu q 82 0) (by decide)
      refine PIv_nl I (gow_nl _ _ _ _) (hn c) n12 (fun s hs e => ?_) (Or.inl ⟨r, hr, x63⟩)
      have es : s = r := by
        rw [x63, nI_ee (by omega) (by omega)] at e
        omega
      subst es
      obtain ⟨m, m1, m2, m3, m4⟩ := Pin_g0 Ir hw
      exact pok_dup Ir m1 (Or.inr x0) (x0.trans m2.symm) (x1.trans m4.symm) (x3.trans (hw.trans m3.symm)) ⟨by omega, by omega⟩ (fun e => absurd (x0.symm.trans e) (by decide))
    · exact V_ow I n12 hB (hn c) hr ⟨by omega, hk⟩ hw
theorem V_abkB {q : xrho} {B : Int} {r : Nat} (I : PIv q B) (n12 : nu q 12 0 ≤ 40) (hB : 0 ≤ B) (hn : ¬ (q.1 2 r = 0 ∨ q.1 7 r < 0) → nu q 82 0 < 1200) (hr : r < nu q 12 0) : PIv (abkB q r) B := by
  unfold abkB
  by_cases c : q.1 2 r = 0 ∨ q.1 7 r < 0
  · rw [if_pos c]
    exact I
  · rw [if_neg c]
    exact V_gbeg I n12 hB (hn c) hr
