/-! the lists and the letters of the plain methods -/
theorem nf1_i {k : Nat} (h : nf1 k = true) : k = 19 ∨ k = 20 ∨ k = 25 ∨ k = 26 ∨ k = 34 ∨ k = 35 ∨ k = 36 ∨ k = 78 ∨ k = 79 ∨ k = 80 := Classical.byContradiction fun c => by
  rw [nf1_o (by omega)] at h
  exact absurd h (by decide)
theorem nf2_i {k : Nat} (h : nf2 k = true) : k = 27 ∨ k = 37 ∨ k = 81 := by
  unfold nf2 at h
  rcases Bool.or_eq_true _ _ |>.mp h with e | e
  · exact Or.inl (Nat.eq_of_beq_eq_true e)
  · rcases Bool.or_eq_true _ _ |>.mp e with e | e
    · exact Or.inr (Or.inl (Nat.eq_of_beq_eq_true e))
    · exact Or.inr (Or.inr (Nat.eq_of_beq_eq_true e))
/-- lists the same, no letter less -/
def pl (q q' : xrho) : Prop := (∀ k, k = 19 ∨ k = 20 ∨ k = 25 ∨ k = 26 ∨ k = 34 ∨ k = 35 ∨ k = 36 ∨ k = 78 ∨ k = 79 ∨ k = 80 → q'.1 k = q.1 k) ∧ (∀ k, k = 27 ∨ k = 37 ∨ k = 81 → q'.2 k = q.2 k) ∧ nu q 82 0 ≤ nu q' 82 0
theorem pl_LX {q q' : xrho} {L : xLs} (p : pl q q') (h : LX q L) : LX q' L := LX_f h (fun k hk => p.1 k (nf1_i hk)) (fun k hk => p.2.1 k (nf2_i hk))
theorem pl_rf (q : xrho) : pl q q := ⟨fun _ _ => rfl, fun _ _ => rfl, Nat.le_refl _⟩
theorem pl_tr {a b c : xrho} (h : pl a b) (h' : pl b c) : pl a c := ⟨fun k hk => (h'.1 k hk).trans (h.1 k hk), fun k hk => (h'.2.1 k hk).trans (h.2.1 k hk), Nat.le_trans h.2.2 h'.2.2⟩
theorem pl_up {q : xrho} {k i : Nat} {x : Int32} (hk : k ≠ 19 ∧ k ≠ 20 ∧ k ≠ 25 ∧ k ≠ 26 ∧ k ≠ 34 ∧ k ≠ 35 ∧ k ≠ 36 ∧ k ≠ 78 ∧ k ≠ 79 ∧ k ≠ 80 ∧ k ≠ 82) : pl q (rup q k i x) := ⟨fun j hj => rup_ne _ _ _ _ (by omega), fun _ _ => rfl, Nat.le_of_eq (nu_e (rup_f _ _ _ _ (by omega))).symm⟩
theorem pl_upL {q : xrho} {k i : Nat} {x : Int64} (hk : k ≠ 27 ∧ k ≠ 37 ∧ k ≠ 81) : pl q (rupL q k i x) := ⟨fun j hj => rfl, fun j hj => rupL_ne _ _ _ _ (by omega), Nat.le_refl _⟩
theorem pl_nl {q q' : xrho} (h : nlq q (nu q 82 0) q') (hl : nu q 82 0 < 1200) : pl q q' ∧ nu q' 82 0 = nu q 82 0 + 1 := ⟨⟨fun k hk => funext fun i => h.1 k i (by omega) (by omega), fun k hk => funext fun i => h.2.2.2.1 k i (by omega), by rw [nu_nl h hl]; omega⟩, nu_nl h hl⟩
theorem pl_cps {q : xrho} {a z : Nat} {r e h lo hi : Int32} : pl q (cps q a z r e h lo hi) := ⟨fun k hk => by unfold cps; simp (disch := omega) only [va_up_ne], fun _ _ => rfl, Nat.le_of_eq (nu_e (by unfold cps; simp (disch := omega) only [va_up_ne])).symm⟩
theorem pl_lrn (c : Nat) : ∀ m r q, pl q (glearn c r m q)
  | 0, _, q => pl_rf q
  | m + 1, r, q => by
    unfold glearn
    split
    · exact pl_lrn c m (r + 1) q
    · exact pl_tr pl_cps (pl_lrn c m (r + 1) _)
theorem pl_ref (q : xrho) (k : Nat) : pl q (gref q k) := pl_up (by decide)
theorem pl_caller (q : xrho) (c n : Nat) : pl q (gcaller q c n).2 := by
  unfold gcaller
  split
  · exact pl_ref _ _
  · split
    · exact pl_ref _ _
    · exact pl_tr (pl_up (by decide)) (pl_lrn _ _ _ _)
theorem pl_learn (q : xrho) (x : Int32) : pl q (glearnP q x).2 := by
  unfold glearnP
  split
  · exact pl_ref _ _
  · split
    · exact pl_ref _ _
    · exact pl_lrn _ _ _ _
theorem pl_sends {q : xrho} {c j key : Nat} (hl : nu q 82 0 < 1200) : pl q (gsends q (nu q 82 0) c j key) := by
  unfold gsends
  exact pl_tr (pl_nl (nlq_up (nlq_new _ _ _ _ _ _ _) (by decide)) hl).1 (pl_up (by decide))
theorem pl_again {q : xrho} (h : nu q 82 0 ≤ 1200) (x y : Int32) : pl q (gagain q x y).2 := by
  unfold gagain
  split
  · exact pl_ref _ _
  · split
    · exact pl_ref _ _
    · exact pl_sends (by omega)
theorem pl_call {q : xrho} (h : nu q 82 0 ≤ 1200) (x kind key : Int32) (v w : Int64) : pl q (gcall q x kind key v w).2 := by
  unfold gcall
  split
  · exact pl_ref _ _
  · next c e1 =>
    split
    · exact pl_ref _ _
    · split
      · exact pl_ref _ _
      · split
        · exact pl_ref _ _
        · next ky e3 hl =>
          have e82 : nu (gcallq q c (nu q 46 c) kind key v w) 82 0 = nu q 82 0 := rfl
          have p1 : pl q (gcallq q c (nu q 46 c) kind key v w) := by
            unfold gcallq
            exact pl_tr (pl_up (by decide)) (pl_tr (pl_up (by decide)) (pl_tr (pl_upL (by decide)) (pl_tr (pl_upL (by decide)) (pl_tr (pl_up (by decide)) (pl_up (by decide))))))
          have p2 := pl_sends (q := gcallq q c (nu q 46 c) kind key v w) (c := c) (j := nu q 46 c) (key := ky) (by omega)
          rw [e82] at p2
          exact pl_tr p1 p2
theorem pl_move {q : xrho} (h : nu q 82 0 ≤ 1200) (x y : Int32) : pl q (gmove q x y).2 := by
  unfold gmove
  split
  · exact pl_ref _ _
  · next r e1 =>
    split
    · exact pl_ref _ _
    · next t e2 =>
      split
      · exact pl_ref _ _
      · split
        · exact pl_ref _ _
        · split
          · exact pl_ref _ _
          · have e82 : nu (rup (rup q 7 r (nI t)) 8 r (q.1 5 r + nI 1)) 82 0 = nu q 82 0 := rfl
            have p2 := (pl_nl (q := rup (rup q 7 r (nI t)) 8 r (q.1 5 r + nI 1)) (gbeg_nl _ _ r) (by omega)).1
            rw [e82] at p2
            exact pl_tr (pl_up (by decide)) (pl_tr (pl_up (by decide)) p2)
theorem pl_ow2 {q q1 : xrho} (p1 : pl q q1) (e : nu q1 82 0 = nu q 82 0) (h : nu q 82 0 + 2 ≤ 1200) (r a c : Nat) : pl q (gowedL (gowedL q1 r a (nu q 82 0)) r c (nu q 82 0 + 1)) := by
  rw [← e] at h ⊢
  have t := pl_nl (gow_nl q1 r a (nu q1 82 0)) (by omega)
  have u := pl_nl (q := gowedL q1 r a (nu q1 82 0)) (gow_nl _ r c _) (by omega)
  rw [t.2] at u
  exact pl_tr p1 (pl_tr t.1 u.1)
theorem pl_undo {q : xrho} (x : Int32) : pl q (gundo q x).2 := by
  unfold gundo
  split
  · exact pl_ref _ _
  · next r e1 =>
    split
    · exact pl_ref _ _
    · split
      · exact pl_ref _ _
      · split
        · exact pl_ref _ _
        · have p1 : pl q (gundoq q r) := by
            unfold gundoq
            exact pl_tr (pl_up (by decide)) (pl_tr (pl_up (by decide)) (pl_tr (pl_up (by decide)) (pl_tr (pl_up (by decide)) (pl_tr (pl_up (by decide)) (pl_tr (pl_up (by decide)) (pl_up (by decide)))))))
          exact pl_ow2 p1 rfl (by omega) _ _ _
theorem pl_rise (q : xrho) (x : Int32) : pl q (grise q x).2 := by
  unfold grise
  split
  · exact pl_ref _ _
  · split
    · exact pl_up (by decide)
    · exact pl_ref _ _
theorem pl_lose (q : xrho) (n : Nat) (x : Int32) : pl q (glose q n x).2 := by
  unfold glose
  split
  · exact pl_ref _ _
  · split
    · exact pl_up (by decide)
    · exact pl_ref _ _
theorem pl_fal (h : Nat) : ∀ m r q k, pl q (gfal h r m q k).1
  | 0, _, q, _ => pl_rf q
  | m + 1, r, q, k => by
    unfold gfal
    split
    · exact pl_tr (pl_up (by decide)) (pl_fal h m (r + 1) _ _)
    · exact pl_fal h m (r + 1) _ _
theorem pl_fall (q : xrho) (x : Int32) : pl q (gfall q x).2 := by
  unfold gfall
  split
  · exact pl_ref _ _
  · split
    · exact pl_ref _ _
    · exact pl_tr (pl_up (by decide)) (pl_fal _ _ _ _ _)
