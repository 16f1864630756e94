/-! the invariant is kept: the other methods -/
abbrev PN (q : xrho) (L : xLs) (n : Nat) (B : Int) : Prop := PIv q B ∧ NN q L n
theorem S_ref {q : xrho} {L : xLs} {n k : Nat} {B : Int} (P : PN q L n B) : PN (gref q k) L n (B + 100) := ⟨raise2 (V_ref P.1 P.2.1.2.2.2.1.2) (by omega), NN_ref P.2⟩
theorem V_cps {q : xrho} {B : Int} {a z : Nat} {r e h lo hi : Int32} (I : PIv q B) (n12 : nu q 12 0 ≤ 40) : PIv (cps q a z r e h lo hi) B := by
  have fr : ∀ k, ¬ (55 ≤ k ∧ k ≤ 59) → (cps q a z r e h lo hi).1 k = q.1 k := fun k hk => by
    unfold cps
    simp (disch := omega) only [va_up_ne]
  exact PIv_0 I (by rw [fr 12 (by decide)]) (fun s hs => ⟨fun k _ _ _ => by rw [fr k (by omega)], fun j _ => by rw [fr 9 (by decide)], fun k h hk => by unfold pkf at hk; rw [fr k (by omega)]⟩) ⟨fun k i _ _ _ _ => by rw [fr k (by omega)], by rw [fr 82 (by decide)]⟩ n12
theorem V_lrn (c : Nat) {B : Int} : ∀ (m r : Nat) (q : xrho), nu q 12 0 ≤ 40 → PIv q B → PIv (glearn c r m q) B
  | 0, _, _, _, I => I
  | m + 1, r, q, n12, I => by
    unfold glearn
    split
    · exact V_lrn c m (r + 1) q n12 I
    · exact V_lrn c m (r + 1) _ n12 (V_cps I n12)
theorem S_learn {q : xrho} {L : xLs} {n : Nat} {B : Int} {x : Int32} (P : PN q L n B) : PN (glearnP q x).2 L n (B + 100) := by
  refine ⟨?_, NN_learn P.2⟩
  have n12 := P.2.1.2.2.2.1.2
  unfold glearnP
  split
  · exact (S_ref P).1
  · split
    · exact (S_ref P).1
    · exact raise2 (V_lrn _ _ _ _ n12 P.1) (by omega)
theorem S_caller {q : xrho} {L : xLs} {n : Nat} {B : Int} (P : PN q L n B) : PN (gcaller q (nu q 45 0) (nu q 12 0)).2 L n (B + 100) := by
  refine ⟨?_, NN_caller P.2⟩
  have n12 := P.2.1.2.2.2.1.2
  unfold gcaller
  split
  · exact (S_ref P).1
  · split
    · exact (S_ref P).1
    · exact raise2 (V_lrn _ _ _ _ n12 (V_rup P.1 n12 (by decide))) (by omega)
theorem V_sends {q : xrho} {B : Int} {c j key : Nat} (I : PIv q B) (n12 : nu q 12 0 ≤ 40) (hl : nu q 82 0 < 1200) : PIv (gsends q (nu q 82 0) c j key) B := by
  unfold gsends
  have en : nlq q (nu q 82 0) (rup (gnew q (nu q 82 0) (Int32.ofInt 0) (q.1 57 (10000 * c + key)) (nI c) (q.1 55 (10000 * c + key)) (q.1 56 (10000 * c + key))) 66 (nu q 82 0) (nI j)) := nlq_up (nlq_new _ _ _ _ _ _ _) (by decide)
  refine V_rup (V_cl I n12 hl en ?_) (by rw [nu_e (en.1 12 0 (by decide) (by decide))]; exact n12) (by decide)
  have : (rup (gnew q (nu q 82 0) (Int32.ofInt 0) (q.1 57 (10000 * c + key)) (nI c) (q.1 55 (10000 * c + key)) (q.1 56 (10000 * c + key))) 66 (nu q 82 0) (nI j)).1 60 (nu q 82 0) = nI 0 := by
    rw [rup_f _ _ _ _ (by decide)]
    exact (gnew_at _ _ _ _ _ _ _).1
  rw [ti_k this (by decide)]
  decide
theorem S_again {q : xrho} {L : xLs} {n : Nat} {B : Int} {x y : Int32} (P : PN q L n B) : PN (gagain q x y).2 L n (B + 100) := by
  refine ⟨?_, NN_again P.2⟩
  have n12 := P.2.1.2.2.2.1.2
  have b82 := P.2.1.2.2.1.2
  unfold gagain
  split
  · exact (S_ref P).1
  · split
    · exact (S_ref P).1
    · exact raise2 (V_sends P.1 n12 (by omega)) (by omega)
theorem S_call {q : xrho} {L : xLs} {n : Nat} {B : Int} {x kind key : Int32} {v w : Int64} (P : PN q L n B) : PN (gcall q x kind key v w).2 L n (B + 100) := by
  refine ⟨?_, NN_call P.2⟩
  have n12 := P.2.1.2.2.2.1.2
  have b82 := P.2.1.2.2.1.2
  unfold gcall
  split
  · exact (S_ref P).1
  · next c e1 =>
    split
    · exact (S_ref P).1
    · split
      · exact (S_ref P).1
      · next ky e3 =>
        split
        · exact (S_ref P).1
        · next hl =>
          have I1 : PIv (gcallq q c (nu q 46 c) kind key v w) B := by
            unfold gcallq
            exact V_rup (V_rup (PIv_e (q := rup (rup q 47 (60 * c + nu q 46 c) kind) 48 (60 * c + nu q 46 c) key) rfl n12 (V_rup (V_rup P.1 n12 (by decide)) n12 (by decide))) n12 (by decide)) n12 (by decide)
          have e82 : nu (gcallq q c (nu q 46 c) kind key v w) 82 0 = nu q 82 0 := rfl
          have e12 : nu (gcallq q c (nu q 46 c) kind key v w) 12 0 = nu q 12 0 := rfl
          have := V_sends (c := c) (j := nu q 46 c) (key := ky) I1 (by omega) (by omega)
          rw [e82] at this
          exact raise2 this (by omega)
theorem S_move {q : xrho} {L : xLs} {n : Nat} {B : Int} {x y : Int32} (P : PN q L n B) (hB : 0 ≤ B ∧ B < 1800000000) : PN (gmove q x y).2 L n (B + 100) := by
  refine ⟨?_, NN_move P.2⟩
  have n12 := P.2.1.2.2.2.1.2
  have b82 := P.2.1.2.2.1.2
  unfold gmove
  split
  · exact (S_ref P).1
  · next r e1 =>
    obtain ⟨r1, r2, r3⟩ := grng_some P.2.1.2.2.2.1 e1
    split
    · exact (S_ref P).1
    · next h e2 =>
      have hh := ix_lt (by decide) e2
      split
      · exact (S_ref P).1
      · split
        · exact (S_ref P).1
        · next c =>
          split
          · exact (S_ref P).1
          · exact raise2 (V_mv P.1 n12 ⟨by omega, by omega⟩ (by omega) r1 (P.2.2.1.1.2.2.2.2.2.1 r r2) r3 (tI_n0 (fun e => c (Or.inl e))) hh (fun e => c (Or.inr e))) (by omega)
theorem S_undo {q : xrho} {L : xLs} {n : Nat} {B : Int} {x : Int32} (P : PN q L n B) (hB : 0 ≤ B ∧ B < 1800000000) : PN (gundo q x).2 L n (B + 100) := by
  refine ⟨?_, NN_undo P.2⟩
  have n12 := P.2.1.2.2.2.1.2
  have b82 := P.2.1.2.2.1.2
  unfold gundo
  split
  · exact (S_ref P).1
  · next r e1 =>
    obtain ⟨r1, r2, r3⟩ := grng_some P.2.1.2.2.2.1 e1
    split
    · exact (S_ref P).1
    · split
      · exact (S_ref P).1
      · next c =>
        split
        · exact (S_ref P).1
        · exact raise2 (V_un P.1 n12 ⟨by omega, by omega⟩ (by omega) r1 (Classical.byContradiction c)) (by omega)
theorem S_split {q : xrho} {L : xLs} {n : Nat} {B : Int} {x key : Int32} (P : PN q L n B) (hB : 0 ≤ B ∧ B < 1800000000) : PN (asplit q L x key).2.1 (asplit q L x key).2.2 n (B + 100) := by
  refine ⟨?_, NN_split P.2⟩
  have n12 := P.2.1.2.2.2.1.2
  unfold asplit
  split
  · exact (S_ref P).1
  · next r e1 =>
    obtain ⟨r1, r2, r3⟩ := grng_some P.2.1.2.2.2.1 e1
    split
    · exact (S_ref P).1
    · split
      · exact (S_ref P).1
      · split
        · exact (S_ref P).1
        · next hf =>
          split
          · exact (S_ref P).1
          · exact raise2 (V_spl P.1 (by omega) (by omega) r1 (P.2.2.1.1.2.2.2.2.2.1 r r2) (tI_n0 hf)) (by omega)
theorem S_merge {q : xrho} {L : xLs} {n : Nat} {B : Int} {x y : Int32} (P : PN q L n B) (hB : 0 ≤ B ∧ B < 1800000000) : PN (amerge q L x y).2.1 (amerge q L x y).2.2 n (B + 100) := by
  refine ⟨?_, NN_merge P.2⟩
  have n12 := P.2.1.2.2.2.1.2
  unfold amerge
  split
  · exact (S_ref P).1
  · next r e1 =>
    obtain ⟨r1, r2, r3⟩ := grng_some P.2.1.2.2.2.1 e1
    split
    · exact (S_ref P).1
    · next s e2 =>
      obtain ⟨s1, s2, s3⟩ := grng_some P.2.1.2.2.2.1 e2
      split
      · exact (S_ref P).1
      · split
        · exact (S_ref P).1
        · next hc =>
          have hc' : ¬ (q.1 4 r ≠ q.1 3 s ∧ q.1 4 s ≠ q.1 3 r) := fun h => hc (Or.inr (Or.inr (Or.inr (Or.inl h))))
          have h6e : nu q 6 r = nu q 6 s := Classical.byContradiction fun h => hc (Or.inr (Or.inr (Or.inl h)))
          have fr := tI_n0 (fun h => hc (Or.inl h))
          have ne := (NN_mrg P.2 r1 s1 r3 s3 fr h6e (by
            by_cases c : q.1 4 r = q.1 3 s
            · exact Or.inl c
            · exact Or.inr (Classical.byContradiction fun h => hc' ⟨c, h⟩)) (fun _ => []) (fun _ => [])).1
          exact raise2 (V_mrg P.1 n12 (by omega) r1 s1 ne (P.2.2.1.1.2.2.2.2.2.1 r r2) (P.2.2.1.1.2.2.2.2.2.1 s s2) h6e fr (tI_n0 (fun h => hc (Or.inr (Or.inl h))))) (by omega)
theorem S_rise {q : xrho} {L : xLs} {n : Nat} {B : Int} {x : Int32} (P : PN q L n B) : PN (grise q x).2 L n (B + 100) := by
  refine ⟨?_, NN_rise P.2⟩
  unfold grise
  split
  · exact (S_ref P).1
  · split
    · exact raise2 (V_rup P.1 P.2.1.2.2.2.1.2 (by decide)) (by omega)
    · exact (S_ref P).1
theorem S_lose {q : xrho} {L : xLs} {n : Nat} {B : Int} {x : Int32} (P : PN q L n B) : PN (glose q (nu q 82 0) x).2 L n (B + 100) := by
  refine ⟨?_, NN_lose P.2⟩
  unfold glose
  split
  · exact (S_ref P).1
  · split
    · exact raise2 (V_rup P.1 P.2.1.2.2.2.1.2 (by decide)) (by omega)
    · exact (S_ref P).1
theorem NN_fal (h : Nat) {L : xLs} {n : Nat} (hh : h < 6) : ∀ (m r : Nat) (q : xrho) (k : Nat), r + m ≤ 40 → NN q L n → NN (gfal h r m q k).1 L n
  | 0, _, _, _, _, H => H
  | m + 1, r, q, k, hr, H => by
    unfold gfal
    split
    · exact NN_fal h hh m (r + 1) _ _ (by omega) (NN_15 H (by omega) (Or.inl rfl))
    · exact NN_fal h hh m (r + 1) _ _ (by omega) H
theorem S_fall {q : xrho} {L : xLs} {n : Nat} {B : Int} {x : Int32} (P : PN q L n B) : PN (gfall q x).2 L n (B + 100) := by
  have n12 := P.2.1.2.2.2.1.2
  unfold gfall
  split
  · exact S_ref P
  · next h e1 =>
    have hh := ix_lt (by decide) e1
    split
    · exact S_ref P
    · have z := (V_fal h B 40 0 (rup q 0 h (nI 0)) 0 B (by decide) n12 (V_rup P.1 n12 (by decide))).1
      exact ⟨raise2 z (by omega), NN_fal h hh 40 0 _ _ (by decide) (NN_rup P.2 (by unfold rel; decide))⟩
