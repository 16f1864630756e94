/-! both sides: split, merge, step, deliver -/
theorem sp_cv {q q' : xrho} {L : xLs} {x key a : Int32} (hX : LX q L) (h : match grng q x with
    | none => a = Int32.ofInt (-1) ∧ q' = gref q 1
    | some r => if key ≤ q.1 3 r ∨ q.1 4 r ≤ key then a = Int32.ofInt (-3) ∧ q' = gref q 3 else if q.1 0 0 = 0 ∨ q.1 0 (nu q 6 r) = 0 then a = Int32.ofInt (-4) ∧ q' = gref q 4 else if tI (gfree q r (nu q 6 r)) = 0 then a = Int32.ofInt (-5) ∧ q' = gref q 5 else if nu q 12 0 = 40 then a = Int32.ofInt (-6) ∧ q' = gref q 6 else a = nI (nu q 12 0) ∧ flat (gspq q r (nu q 6 r) (nu q 12 0) key) q' ∧ LAok q' (spR L.1 (40 * nu q 6 r + r) (40 * nu q 6 r + nu q 12 0) key) L.2.1 (spK L.2.2.1 (40 * nu q 6 r + r) (40 * nu q 6 r + nu q 12 0))) : a = (asplit q L x key).1 ∧ fl2 (asplit q L x key).2.1 q' ∧ LX q' (asplit q L x key).2.2 := by
  have rf : ∀ k c, (a = c ∧ q' = gref q k) → a = c ∧ fl2 (gref q k) q' ∧ LX q' L := fun k c e => by
    rw [e.2]
    exact ⟨e.1, fl2_rf _, pl_LX (pl_ref _ _) hX⟩
  unfold asplit
  cases e : grng q x with
  | none =>
    rw [e] at h
    exact rf 1 _ h
  | some r =>
    rw [e] at h
    dsimp only at h ⊢
    by_cases c1 : key ≤ q.1 3 r ∨ q.1 4 r ≤ key
    · rw [if_pos c1] at h ⊢
      exact rf 3 _ h
    · rw [if_neg c1] at h ⊢
      by_cases c2 : q.1 0 0 = 0 ∨ q.1 0 (nu q 6 r) = 0
      · rw [if_pos c2] at h ⊢
        exact rf 4 _ h
      · rw [if_neg c2] at h ⊢
        by_cases c3 : tI (gfree q r (nu q 6 r)) = 0
        · rw [if_pos c3] at h ⊢
          exact rf 5 _ h
        · rw [if_neg c3] at h ⊢
          by_cases c4 : nu q 12 0 = 40
          · rw [if_pos c4] at h ⊢
            exact rf 6 _ h
          · rw [if_neg c4] at h ⊢
            obtain ⟨h1, h2, h3⟩ := h
            have z : LX (gspq q r (nu q 6 r) (nu q 12 0) key) L := LX_f hX (fun k hk => funext fun i => by have := nf1_i hk; simp (disch := omega) only [gspq, gbook, rup_f]) (fun _ _ => rfl)
            exact ⟨h1, fl2_of h2, LX_of z h2 h3⟩
theorem mg_cv {q q' : xrho} {L : xLs} {x y a : Int32} (hX : LX q L) (h : mrgS q L.1 L.2.1 L.2.2.1 x y a q') : a = (amerge q L x y).1 ∧ fl2 (amerge q L x y).2.1 q' ∧ LX q' (amerge q L x y).2.2 := by
  have rf : ∀ k c, (a = c ∧ q' = gref q k) → a = c ∧ fl2 (gref q k) q' ∧ LX q' L := fun k c e => by
    rw [e.2]
    exact ⟨e.1, fl2_rf _, pl_LX (pl_ref _ _) hX⟩
  unfold mrgS at h
  unfold amerge
  cases e : grng q x with
  | none =>
    rw [e] at h
    exact rf 1 _ h
  | some r =>
    rw [e] at h
    dsimp only at h ⊢
    cases e' : grng q y with
    | none =>
      rw [e'] at h
      exact rf 1 _ h
    | some s =>
      rw [e'] at h
      dsimp only at h ⊢
      by_cases c1 : q.1 0 0 = 0 ∨ q.1 0 (nu q 6 r) = 0 ∨ q.1 0 (nu q 6 s) = 0
      · rw [if_pos c1] at h ⊢
        exact rf 4 _ h
      · rw [if_neg c1] at h ⊢
        by_cases c2 : tI (gfree q r (nu q 6 r)) = 0 ∨ tI (gfree q s (nu q 6 s)) = 0 ∨ nu q 6 r ≠ nu q 6 s ∨ (q.1 4 r ≠ q.1 3 s ∧ q.1 4 s ≠ q.1 3 r) ∨ 60 < (L.1 (40 * nu q 6 r + r)).length + (L.1 (40 * nu q 6 r + s)).length
        · rw [if_pos c2] at h ⊢
          exact rf 5 _ h
        · rw [if_neg c2] at h ⊢
          obtain ⟨h1, h2, h3⟩ := h
          have z : LX (gmgq q r s (nu q 6 r)) L := LX_f hX (fun k hk => funext fun i => by have := nf1_i hk; simp (disch := omega) only [gmgq, gmg0, rup_f]) (fun _ _ => rfl)
          exact ⟨h1, fl2_of h2, LX_of z h2 h3⟩
theorem LS_q {N0 T0 X B b Ln n x y : Nat} {xs : Nat → Int32} {M M1 : xM} {ow ow1 : xOw} {q : xrho} {L : xLs} (D : LSd N0 T0 X B b Ln xs n M ow q L) (s : stp ext x y ow M ow1 M1) : rput B q M1 = M1 := by
  obtain ⟨d1, d2, d3, d4, ⟨d5, d6⟩, d7, ⟨d8, d9, d10⟩, d11, d12⟩ := D
  exact rput_i.mpr (fun a h1 h2 => by rw [(s.2.2.2 a (by omega)).2 (Or.inl (d6 a h1 h2))]; exact rput_i.mp d4 a h1 h2)
theorem B_split {N0 T0 MI X B b Ln n : Nat} {xs : Nat → Int32} {M : xM} (hn : n ≤ 511) (S : LwS N0 T0 X B b Ln xs n M) (x y : Int32) : ∃ a M1 M2, xZ T0 MI 73 0 [some (vr (some X)), some (vi x), some (vi y), none, none, none, none, none] [] M = some (some (vi a), M1) ∧ xZ T0 MI 159 0 [some (vr (some B)), some (vi x), some (vi y), none, none, none, none, none, none, none] [] M1 = some (some (vi a), M2) ∧ SC X B b Ln xs M1 ∧ LwS N0 T0 X B b Ln xs (n + 1) M2 := by
  obtain ⟨ow, q, L, D⟩ := S
  obtain ⟨R, P, hX, -, -, hT, -⟩ := id D
  have F := P.2
  obtain ⟨N1, N2, N3, N4, N5, N6, N7, N8, N9⟩ := F
  have bb := N_bds N1 (show n ≤ 600 by omega)
  have l82 := bb.2.2.1.2
  obtain ⟨M1, ow1, r1, H1, s1⟩ := P_split (MI := MI) (x := x) (key := y) (o3 := none) (o4 := none) (o5 := none) (o6 := none) (o7 := none) R bb N2.1 (N_frP P.1)
  have P1 := S_split (x := x) (key := y) P ⟨by omega, by omega⟩
  have pg : nu q 82 0 ≤ nu (asplit q L x y).2.1 82 0 := Nat.le_of_eq ge_split.symm
  have pm := phi_mono pg
  have e1 : rput B q M1 = M1 := (LS_q D s1)
  obtain ⟨a, q2, rr, hm⟩ := c_split (T0 := T0) (MI := MI) (B := B) (M := M1) (x := x) (key := y) (o3 := none) (o4 := none) (o5 := none) (o6 := none) (o7 := none) (o8 := none) (o9 := none) hX.1 N1.2.2.2.1 (N_xb N2.1) N2.1.2.2.2.2.2.1
  obtain ⟨ha, hf, hL⟩ := sp_cv hX hm
  obtain ⟨-, sc, ls⟩ := LS_go D (by omega) H1 (Nat.le_succ n) s1 ⟨P1.1, NN_up P1.2 (Nat.le_succ n)⟩ hf hL pg (by omega) (by omega)
  rw [e1, ha] at rr
  exact ⟨_, M1, _, r1, rr, sc, ls⟩

theorem B_merge {N0 T0 MI X B b Ln n : Nat} {xs : Nat → Int32} {M : xM} (hn : n ≤ 511) (S : LwS N0 T0 X B b Ln xs n M) (x y : Int32) : ∃ a M1 M2, xZ T0 MI 74 0 [some (vr (some X)), some (vi x), some (vi y), none, none, none, none, none, none, none, none, none] [] M = some (some (vi a), M1) ∧ xZ T0 MI 160 0 [some (vr (some B)), some (vi x), some (vi y), none, none, none, none] [] M1 = some (some (vi a), M2) ∧ SC X B b Ln xs M1 ∧ LwS N0 T0 X B b Ln xs (n + 1) M2 := by
  obtain ⟨ow, q, L, D⟩ := S
  obtain ⟨R, P, hX, -, -, hT, -⟩ := id D
  have F := P.2
  obtain ⟨N1, N2, N3, N4, N5, N6, N7, N8, N9⟩ := F
  have bb := N_bds N1 (show n ≤ 600 by omega)
  have l82 := bb.2.2.1.2
  obtain ⟨M1, ow1, r1, H1, s1⟩ := P_merge (MI := MI) (x := x) (y := y) (o3 := none) (o4 := none) (o5 := none) (o6 := none) (o7 := none) (o8 := none) (o9 := none) (o10 := none) (o11 := none) R bb N2.1 hX
  have P1 := S_merge (x := x) (y := y) P ⟨by omega, by omega⟩
  have pg : nu q 82 0 ≤ nu (amerge q L x y).2.1 82 0 := Nat.le_of_eq ge_merge.symm
  have pm := phi_mono pg
  have e1 : rput B q M1 = M1 := (LS_q D s1)
  obtain ⟨a, q2, rr, hm⟩ := c_merge (T0 := T0) (MI := MI) (B := B) (M := M1) (x := x) (y := y) (o3 := none) (o4 := none) (o5 := none) (o6 := none) hX.1 N1.2.2.2.1 (N_xb N2.1) N2.1.2.2.2.2.2.1 (N_hlt N2.1)
  obtain ⟨ha, hf, hL⟩ := mg_cv hX hm
  obtain ⟨-, sc, ls⟩ := LS_go D (by omega) H1 (Nat.le_succ n) s1 ⟨P1.1, NN_up P1.2 (Nat.le_succ n)⟩ hf hL pg (by omega) (by omega)
  rw [e1, ha] at rr
  exact ⟨_, M1, _, r1, rr, sc, ls⟩

theorem B_step {N0 T0 MI X B b Ln n : Nat} {xs : Nat → Int32} {M : xM} (hn : n ≤ 511) (S : LwS N0 T0 X B b Ln xs n M) (x : Int32) : ∃ a M1 M2, xZ T0 MI 76 0 [some (vr (some X)), some (vi x), none, none, none] [] M = some (some (vi a), M1) ∧ xZ T0 MI 161 0 [some (vr (some B)), some (vi x), none, none, none] [] M1 = some (some (vi a), M2) ∧ SC X B b Ln xs M1 ∧ LwS N0 T0 X B b Ln xs (n + 1) M2 := by
  obtain ⟨ow, q, L, D⟩ := S
  obtain ⟨R, P, hX, -, -, hT, -⟩ := id D
  have F := P.2
  obtain ⟨N1, N2, N3, N4, N5, N6, N7, N8, N9⟩ := F
  have bb := N_bds N1 (show n ≤ 600 by omega)
  have l82 := bb.2.2.1.2
  obtain ⟨M1, ow1, r1, H1, s1⟩ := P_step (MI := MI) (x := x) (o2 := none) (o3 := none) (o4 := none) R ⟨bb, N_last N6, N5.1⟩ (N_gvI P.1 N4 N6) (N_owI N1.2.2.2.1.2 P.1) (N_stz P.1)
  have P1 := S_step (x := x) P ⟨by omega, by omega⟩
  have pg : nu q 82 0 ≤ nu (astep q L x).2.1 82 0 := s1.1
  have pm := phi_mono pg
  have e1 : rput B q M1 = M1 := (LS_q D s1.2.2)
  obtain ⟨q2, rr, hf, hL⟩ := c_step (T0 := T0) (MI := MI) (B := B) (M := M1) (x := x) (o2 := none) (o3 := none) (o4 := none) hX N1.2.2.2.1 (N_okG P.2 P.1)
  have sp := s1.2.1
  obtain ⟨-, sc, ls⟩ := LS_go D (by omega) H1 (Nat.le_succ n) s1.2.2 ⟨P1.1, NN_up P1.2 (Nat.le_succ n)⟩ hf hL pg (by omega) (by omega)
  rw [e1] at rr
  exact ⟨_, M1, _, r1, rr, sc, ls⟩

theorem B_deliver {N0 T0 MI X B b Ln n : Nat} {xs : Nat → Int32} {M : xM} (hn : n ≤ 511) (S : LwS N0 T0 X B b Ln xs n M) (x : Int32) : ∃ a M1 M2, xZ T0 MI 83 0 [some (vr (some X)), some (vi x), none, none] [] M = some (some (vi a), M1) ∧ xZ T0 MI 174 0 [some (vr (some B)), some (vi x), none, none, none, none] [] M1 = some (some (vi a), M2) ∧ SC X B b Ln xs M1 ∧ LwS N0 T0 X B b Ln xs (n + 1) M2 := by
  obtain ⟨ow, q, L, D⟩ := S
  obtain ⟨R, P, hX, -, -, hT, -⟩ := id D
  have F := P.2
  obtain ⟨N1, N2, N3, N4, N5, N6, N7, N8, N9⟩ := F
  have bb := N_bds N1 (show n ≤ 600 by omega)
  have l82 := bb.2.2.1.2
  obtain ⟨M1, ow1, r1, H1, s1⟩ := P_deliver (MI := MI) (x := x) (o2 := none) (o3 := none) R (by omega) ⟨bb, N_last N6, N5.1⟩ (N_gvI P.1 N4 N6) (N_gvJ P.1 N4 N6) (N_owI N1.2.2.2.1.2 P.1) N2.1 (N_mv N1.2.2.2.1.2 P.1) (fun p hp => (N6 p hp).1) (fun l hl => N_dlK P.2 P.1 hX hl) (N_knU N2.1 P.1) (N_stz P.1) (fun g hg => (N7 g hg).1) (by have := N1.2.2.2.2.1.2; omega) (by have := N1.2.2.2.2.2.2; omega)
  have P1 := S_deliver (x := x) P (by omega) ⟨by omega, by omega⟩
  have pg : nu q 82 0 ≤ nu (adel q L x).2.1 82 0 := ge_del
  have pm := phi_mono pg
  have e1 : rput B q M1 = M1 := (LS_q D s1)
  obtain ⟨q2, rr, hf, hL⟩ := c_deliver (T0 := T0) (MI := MI) (B := B) (M := M1) (x := x) (o2 := none) (o3 := none) (o4 := none) (o5 := none) hX N1.2.2.2.1 N1.2.2.1 ⟨N1.2.2.2.2.1.1, by have := N1.2.2.2.2.1.2; omega⟩ ⟨N1.2.2.2.2.2.1, by have := N1.2.2.2.2.2.2; omega⟩ (fun l hl => N_okD (N_dlK P.2 P.1 hX hl) (R_copy R))
  obtain ⟨-, sc, ls⟩ := LS_go D (by omega) H1 (Nat.le_refl _) s1 P1 hf hL pg (by omega) (by omega)
  rw [e1] at rr
  exact ⟨_, M1, _, r1, rr, sc, ls⟩

