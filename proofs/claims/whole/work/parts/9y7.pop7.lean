/-! the protocol is kept: sending again, and more -/
/-- a letter that says what an old one said -/
theorem pok_dup {q : xrho} {r : Nat} {B : Int} {x m : Nat → Int} (I : pv q r B) (hS : pS q r m) (hk : x 0 = 4 ∨ x 0 = 7) (k0 : x 0 = m 0) (k1 : x 1 = m 1) (k3 : x 3 = m 3) (hB : x 4 ≤ B ∧ x 5 ≤ B) (h4 : x 0 = 4 → x 4 = m 4 ∧ x 5 = m 5 ∧ x 6 = m 6 ∧ x 7 = m 7 ∧ x 8 = m 8) : pok q r B x := by
  have hm3 : 3 ≤ m 0 := by omega
  unfold pok pokM
  refine ⟨fun _ => ?_, fun _ => ⟨?_, hB⟩, fun e f => ?_, fun e => absurd e (by omega), fun e => absurd e (by omega), fun e => absurd e (by omega), fun e => absurd e (by omega), fun h e => ?_, fun m' h e => ?_, fun m' h e => ?_, fun e => absurd e (by omega), fun hT e f => ?_, fun _ e => absurd e (by omega), fun hT h hh h1 _ => ?_, fun hT h t hh hg ht e f => ?_, fun _ _ _ _ _ _ e => absurd e (by omega), fun hT h t hh hg ht he e f => ?_, fun _ _ _ _ e => absurd e (by omega)⟩
  · have a := Pin_f I m hS hm3
    rw [k3]
    exact ⟨a.1, fun e => by rw [(h4 e).2.1]; exact a.2 (by omega)⟩
  · rw [k3]
    exact (Pin_q3 I m hS hm3).1
  · rw [k1]
    exact Pin_h7 I m hS (by omega) (by omega)
  · rw [k1, k3]
    exact Pin_k1 I m h hS (by omega)
  · rw [k1, k3]
    exact fun a b => Pin_k2 I m m' h hS (by omega) a b
  · rw [k1, k3, (h4 e).1]
    exact fun a b c d => Pin_k2 I m' m h a b hS (by omega) c d
  · rw [k1, (h4 e).2.2.2.1, (h4 e).2.2.2.2]
    exact Pin_l4 I hT m hS (by omega) (by omega)
  · rw [k3]
    rcases hk with e | e
    · exact Pin_m1 I hT h hh h1 m hS (Or.inl (by omega))
    · omega
  · have z := h4 e
    rw [z.1, z.2.1, z.2.2.1]
    exact Pin_n1 I hT h t hh hg ht m hS (by omega) (by omega)
  · rw [(h4 e).1]
    exact (Pin_n5 I hT h t hh hg ht he).2 m hS (by omega) (by omega)
