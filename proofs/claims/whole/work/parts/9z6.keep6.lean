/-! the invariant is kept: step's loops -/
theorem S_O {q : xrho} {L : xLs} {n r k : Nat} {B : Int} (P : PIv q B ∧ NN q L n) (hB : 0 ≤ B) (hr : r < nu q 12 0) (hk : k < 4) (hl : nu q 82 0 + cO q r k ≤ 1200) : (PIv (abkO q r k) B ∧ NN (abkO q r k) L n) ∧ nu (abkO q r k) 82 0 = nu q 82 0 + cO q r k := by
  have n12 := P.2.1.2.2.2.1.2
  have e82 := P.2.1.2.2.1.1
  have c : ¬ q.1 9 (4 * r + k) < 0 → nu q 82 0 < 1200 := fun h => by
    unfold cO at hl
    rw [if_neg h] at hl
    omega
  refine ⟨⟨V_abkO P.1 n12 hB c hr hk, ?_⟩, nu_of (abkO_82 e82 (by omega)) (by omega)⟩
  unfold abkO
  split
  · exact P.2
  · next h => exact NN_gowL P.2 (c h) (by omega) hk
theorem S_B {q : xrho} {L : xLs} {n r : Nat} {B : Int} (P : PIv q B ∧ NN q L n) (hB : 0 ≤ B) (hr : r < nu q 12 0) (hl : nu q 82 0 + cW q r ≤ 1200) : (PIv (abkB q r) B ∧ NN (abkB q r) L n) ∧ nu (abkB q r) 82 0 = nu q 82 0 + cW q r := by
  have n12 := P.2.1.2.2.2.1.2
  have e82 := P.2.1.2.2.1.1
  have c : ¬ (q.1 2 r = 0 ∨ q.1 7 r < 0) → nu q 82 0 < 1200 := fun h => by
    unfold cW at hl
    rw [if_neg h] at hl
    omega
  refine ⟨⟨V_abkB P.1 n12 hB c hr, ?_⟩, nu_of (abkB_82 e82 (by omega)) (by omega)⟩
  unfold abkB
  split
  · exact P.2
  · next h => exact NN_gbeg P.2 (c h) (by omega) ((P.2.2.1.2 r (by omega)).1.resolve_left (fun x => h (Or.inr x)))
theorem S_1 {q : xrho} {L : xLs} {n r : Nat} {B : Int} (P : PIv q B ∧ NN q L n) (hB : 0 ≤ B) (hr : r < nu q 12 0) (hl : nu q 82 0 + cB q r ≤ 1200) : (PIv (abk1 q r) B ∧ NN (abk1 q r) L n) ∧ nu (abk1 q r) 82 0 = nu q 82 0 + cB q r := by
  unfold cB at hl ⊢
  unfold abk1
  have cc : ∀ q' : xrho, q'.1 9 = q.1 9 → ∀ k, cO q' r k = cO q r k := fun q' e k => by unfold cO; rw [e]
  have mm : ∀ q' : xrho, q'.1 12 = q.1 12 → nu q' 12 0 = nu q 12 0 := fun q' e => nu_e (by rw [e])
  have ob : ∀ q' : xrho, ∀ f, f < 60 → (abkB q' r).1 f = q'.1 f := fun q' f hf => abkB_ne (Or.inl hf) (by omega) (by omega)
  have oo : ∀ q' : xrho, ∀ k f, f < 60 → (abkO q' r k).1 f = q'.1 f := fun q' k f hf => abkO_ne (Or.inl hf) (by omega)
  have s0 := S_B P hB hr (by omega)
  have e0 := ob q 9 (by decide)
  have m0 := ob q 12 (by decide)
  generalize abkB q r = q0 at *
  have s1 := S_O (k := 0) s0.1 hB (by rw [mm q0 m0]; exact hr) (by decide) (by rw [s0.2, cc q0 e0]; omega)
  rw [s0.2, cc q0 e0] at s1
  have e1 := (oo q0 0 9 (by decide)).trans e0
  have m1 := (oo q0 0 12 (by decide)).trans m0
  generalize abkO q0 r 0 = q1 at *
  have s2 := S_O (k := 1) s1.1 hB (by rw [mm q1 m1]; exact hr) (by decide) (by rw [s1.2, cc q1 e1]; omega)
  rw [s1.2, cc q1 e1] at s2
  have e2 := (oo q1 1 9 (by decide)).trans e1
  have m2 := (oo q1 1 12 (by decide)).trans m1
  generalize abkO q1 r 1 = q2 at *
  have s3 := S_O (k := 2) s2.1 hB (by rw [mm q2 m2]; exact hr) (by decide) (by rw [s2.2, cc q2 e2]; omega)
  rw [s2.2, cc q2 e2] at s3
  have e3 := (oo q2 2 9 (by decide)).trans e2
  have m3 := (oo q2 2 12 (by decide)).trans m2
  generalize abkO q2 r 2 = q3 at *
  have s4 := S_O (k := 3) s3.1 hB (by rw [mm q3 m3]; exact hr) (by decide) (by rw [s3.2, cc q3 e3]; omega)
  rw [s3.2, cc q3 e3] at s4
  refine ⟨s4.1, ?_⟩
  have := s4.2
  omega
theorem S_s {L : xLs} {n : Nat} {B : Int} (hB : 0 ≤ B) : ∀ (m r : Nat) (q : xrho), PIv q B ∧ NN q L n → r + m ≤ nu q 12 0 → nu q 82 0 + cBs q r m ≤ 1200 → PIv (abks r m q) B ∧ NN (abks r m q) L n
  | 0, _, _, P, _, _ => P
  | m + 1, r, q, P, hr, hl => by
    unfold abks
    unfold cBs at hl
    have s := S_1 (r := r) P hB (by omega) (by omega)
    have o : ∀ f, f < 60 → (abk1 q r).1 f = q.1 f := fun f hf => abk1_ne (Or.inl hf) (by omega) (by omega)
    have e : cBs (abk1 q r) (r + 1) m = cBs q (r + 1) m := cBs_f (o 9 (by decide)) (o 2 (by decide)) (o 7 (by decide)) _ _
    have m12 : nu (abk1 q r) 12 0 = nu q 12 0 := nu_e (by rw [o 12 (by decide)])
    exact S_s hB m (r + 1) (abk1 q r) s.1 (by omega) (by omega)
theorem S_v {n h : Nat} (hh : h < 6) : ∀ (m r : Nat) (q : xrho) (L : xLs) (B : Int), PIv q B ∧ NN q L n → 0 ≤ B → B + 2 * m < 1900000000 → r + m ≤ nu q 12 0 → nu q 82 0 + cGs q h r m ≤ 1200 → PIv (agvs h r m q L).1 (B + 2 * m) ∧ NN (agvs h r m q L).1 (agvs h r m q L).2 n
  | 0, _, _, _, B, P, _, _, _, _ => ⟨raise2 P.1 (by omega), P.2⟩
  | m + 1, r, q, L, B, P, h0, hB, hr, hl => by
    unfold agvs
    unfold cGs at hl
    have n12 := P.2.1.2.2.2.1.2
    have c : q.1 15 (40 * h + r) = nI 2 ∨ q.1 15 (40 * h + r) = nI 3 → nu q 82 0 < 1200 := fun x => by
      unfold cG at hl
      rw [if_pos x] at hl
      omega
    have ok := agv_ok (L := L) (N_okG P.2 P.1) hh (show r < 40 by omega) (by omega)
    have P1 : PIv (agv q L h r).1 (B + 2) ∧ NN (agv q L h r).1 (agv q L h r).2 n := ⟨V_agv P.1 n12 ⟨h0, by omega⟩ c (by omega) hh (N_gvJ P.1 P.2.2.2.2.1 P.2.2.2.2.2.2.1), NN_agv P.1 P.2 hh (by omega) c⟩
    have e : cGs (agv q L h r).1 h (r + 1) m = cGs q h (r + 1) m := cGs_f _ _ (fun i hi => ok.2.2.2 _ (by omega))
    have m12 : nu (agv q L h r).1 12 0 = nu q 12 0 := nu_e (by rw [ok.2.2.1])
    have o82 := ok.2.1
    have z := S_v hh m (r + 1) (agv q L h r).1 (agv q L h r).2 (B + 2) P1 (by omega) (by omega) (by omega) (by omega)
    exact ⟨raise2 z.1 (by omega), z.2⟩
theorem S_step {q : xrho} {L : xLs} {n : Nat} {B : Int} {x : Int32} (P : PIv q B ∧ NN q L n) (hB : 0 ≤ B ∧ B < 1800000000) : PIv (astep q L x).2.1 (B + 100) ∧ NN (astep q L x).2.1 (astep q L x).2.2 n := by
  have n12 := P.2.1.2.2.2.1.2
  have rf : ∀ k, PIv (gref q k) (B + 100) ∧ NN (gref q k) L n := fun k => ⟨raise2 (V_ref P.1 n12) (by omega), NN_ref P.2⟩
  unfold astep
  split
  · exact rf 1
  · next h e1 =>
    have hh := ix_lt (by decide) e1
    split
    · exact rf 4
    · split
      · exact rf 6
      · next hl =>
        rw [cS_eq] at hl
        have G := N_okG P.2 P.1
        have ao := astB_ok (h := h) (n := nu q 12 0) G (by omega)
        have PB : PIv (astB q h (nu q 12 0)) B ∧ NN (astB q h (nu q 12 0)) L n := by
          unfold astB
          split
          · next c0 =>
            rw [if_pos c0] at hl
            exact S_s hB.1 _ _ _ P (by omega) (by omega)
          · exact P
        have e : cGs (astB q h (nu q 12 0)) h 0 (nu q 12 0) = cGs q h 0 (nu q 12 0) := cGs_f _ _ (fun i hi => by rw [ao.2.2.2])
        have m12 : nu (astB q h (nu q 12 0)) 12 0 = nu q 12 0 := nu_e (by rw [ao.2.2.1])
        have o82 := ao.2.1
        have z := S_v hh (nu q 12 0) 0 (astB q h (nu q 12 0)) L B PB hB.1 (by omega) (by omega) (by omega)
        exact ⟨raise2 z.1 (by omega), z.2⟩
