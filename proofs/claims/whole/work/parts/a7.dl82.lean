/-! deliver: no letter less -/
theorem ge_rup {q q1 : xrho} {k i : Nat} {x : Int32} (h : nu q 82 0 ≤ nu q1 82 0) (hk : k ≠ 82) : nu q 82 0 ≤ nu (rup q1 k i x) 82 0 := by
  rw [nu_e (rup_f _ _ _ _ (Ne.symm hk))]
  exact h
theorem ge_nl {q q1 q2 : xrho} (h : nlq q1 (nu q 82 0) q2) (hl : nu q 82 0 < 1200) : nu q 82 0 ≤ nu q2 82 0 := by
  rw [nu_nl h hl]
  omega
theorem ge_tk {q : xrho} {L : xLs} {l p : Nat} : nu (atkp q L l p).1 82 0 = nu q 82 0 := by
  unfold atkp
  split
  · rfl
  · rfl
theorem ge_parted {q : xrho} {L : xLs} {l h r : Nat} (hl : nu q 82 0 < 1200) : nu q 82 0 ≤ nu (aparted q L l h r).1 82 0 := by
  unfold aparted
  dsimp only
  split
  · exact ge_nl (gtk_nl _ _ _ _ _ _) hl
  · split
    · exact ge_nl (gtk_nl _ _ _ _ _ _) hl
    · split
      · exact ge_nl (gtk_nl _ _ _ _ _ _) hl
      · split
        · exact ge_nl (gtk_nl _ _ _ _ _ _) hl
        · exact Nat.le_refl _
theorem ge_took {q : xrho} {L : xLs} {l h r : Nat} (hl : nu q 82 0 < 1200) : nu q 82 0 ≤ nu (atook q L l h r).1 82 0 := by
  unfold atook
  split
  · split
    · split
      · split
        · exact ge_nl (nlq_new _ _ _ _ _ _ _) hl
        · exact Nat.le_refl _
      · exact Nat.le_refl _
    · split
      · exact Nat.le_refl _
      · exact Nat.le_refl _
  · exact Nat.le_refl _
theorem ge_acall {q : xrho} {L : xLs} {l h r : Nat} (hl : nu q 82 0 < 1200) : nu q 82 0 ≤ nu (acall q L l h r).1 82 0 := by
  unfold acall
  dsimp only
  split
  · split
    · exact ge_nl (nlq_up (nlq_upL (j := 0) (nlq_up (nlq_new _ _ _ _ _ _ _) (by decide))) (by decide)) hl
    · split
      · exact Nat.le_refl _
      · exact ge_nl (nlq_up (nlq_upL (j := 0) (nlq_up (nlq_new _ _ _ _ _ _ _) (by decide))) (by decide)) hl
  · exact ge_nl (gk_nl _ _ _ _ _ _ _).1 hl
theorem ge_gmvd {q : xrho} {k h r : Nat} {e : Int32} (hl : nu q 82 0 < 1199) : nu q 82 0 ≤ nu (gmvd q k h r e) 82 0 := by
  have s1 : ∀ k, nu q 82 0 ≤ nu (gset1 q r k e) 82 0 := fun k => by
    unfold gset1
    split
    · exact Nat.le_refl _
    · exact Nat.le_refl _
  have bk : ∀ (q1 : xrho) k, nu q1 82 0 = nu q 82 0 → nu q 82 0 ≤ nu (gbk q1 k h r e) 82 0 := fun q1 k e1 => by
    unfold gbk
    rw [e1]
    exact ge_nl (nlq_new _ _ _ _ _ _ _) (by omega)
  unfold gmvd
  split
  · split
    · exact Nat.le_refl _
    · have := nu_nl (gow_nl (gowedL (gdnq q r e) r 0 (nu q 82 0)) r 1 (nu q 82 0 + 1)) (by omega)
      omega
  · have e1 : nu (gopen q (40 * h + r) e) 82 0 = nu q 82 0 := by
      unfold gopen
      split <;> rfl
    split
    · exact bk _ _ e1
    · exact Nat.le_of_eq e1.symm
  · refine bk _ _ ?_
    split <;> rfl
  · have e1 : nu (gund q (40 * h + r) e) 82 0 = nu q 82 0 := by
      unfold gund
      split <;> rfl
    split
    · exact bk _ _ e1
    · exact Nat.le_of_eq e1.symm
  · refine bk _ _ ?_
    split <;> rfl
  · exact s1 0
  · exact s1 1
  · exact s1 2
  · exact s1 3
theorem ge_del {q : xrho} {L : xLs} {x : Int32} : nu q 82 0 ≤ nu (adel q L x).2.1 82 0 := by
  unfold adel
  split
  · exact Nat.le_refl _
  · next l e =>
    split
    · split
      · next hl =>
        split
        · show nu q 82 0 ≤ nu (adel1 (rup q 65 l (q.1 65 l + nI 1)) L l).1 82 0
          have hl : nu (rup q 65 l (q.1 65 l + nI 1)) 82 0 < 1199 := hl
          show nu (rup q 65 l (q.1 65 l + nI 1)) 82 0 ≤ _
          generalize rup q 65 l (q.1 65 l + nI 1) = q1 at *
          unfold adel1
          split
          · exact ge_acall (by omega)
          · unfold gheardA
            split
            · exact Nat.le_refl _
            · exact Nat.le_refl _
          · unfold gold
            split
            · exact Nat.le_refl _
            · split
              · exact Nat.le_of_eq (nu_e (by unfold goldq cps; simp (disch := omega) only [va_up_ne, fil_f])).symm
              · exact Nat.le_refl _
          · unfold abeg
            split
            · exact Nat.le_refl _
            · exact Nat.le_refl _
          · exact ge_parted (by omega)
          · exact ge_took (by omega)
          · exact ge_gmvd hl
        · exact Nat.le_refl _
      · exact Nat.le_refl _
    · exact Nat.le_refl _
theorem ge_step {q : xrho} {L : xLs} {x : Int32} {ow ow' : xOw} {M M' : xM} (h : psT (nu q 82 0) (nu (astep q L x).2.1 82 0) ow M ow' M') : nu q 82 0 ≤ nu (astep q L x).2.1 82 0 := h.1
theorem ge_split {q : xrho} {L : xLs} {x key : Int32} : nu (asplit q L x key).2.1 82 0 = nu q 82 0 := by
  unfold asplit
  split
  · rfl
  · split
    · rfl
    · split
      · rfl
      · split
        · rfl
        · split <;> rfl
theorem ge_merge {q : xrho} {L : xLs} {x y : Int32} : nu (amerge q L x y).2.1 82 0 = nu q 82 0 := by
  unfold amerge
  split
  · rfl
  · split
    · rfl
    · split
      · rfl
      · split <;> rfl
