/-! BOTH SIDES, METHOD BY METHOD -/
theorem LS_sc {N0 T0 X B b Ln n : Nat} {xs : Nat → Int32} {M : xM} {ow : xOw} {q : xrho} {L : xLs} (D : LSd N0 T0 X B b Ln xs n M ow q L) : SC X B b Ln xs M := ⟨RepE_c D.1, by rw [← D.2.2.2.1]; exact r_cls _ _ _, D.2.2.2.2.2.2.1.2.2⟩
theorem LS_up {N0 T0 X B b Ln n : Nat} {xs : Nat → Int32} {M : xM} {ow : xOw} {q : xrho} {L : xLs} (D : LSd N0 T0 X B b Ln xs n M ow q L) : LwS N0 T0 X B b Ln xs (n + 1) M := by
  obtain ⟨d1, d2, d3, d4, d5, d6, d7, d8, d9⟩ := D
  exact ⟨ow, q, L, RepE_n d1 (Nat.le_succ n), ⟨raise2 d2.1 (by omega), NN_up d2.2 (Nat.le_succ n)⟩, d3, d4, d5, d6, d7, by omega, by omega⟩
theorem pl_weight (q : xrho) (n : Nat) (x : Int32) : pl q (gweight q n x).2 := by
  unfold gweight
  split
  · exact pl_ref _ _
  · exact pl_rf _
theorem S_weight {q : xrho} {L : xLs} {n m : Nat} {B : Int} {x : Int32} (P : PN q L n B) : PN (gweight q m x).2 L n (B + 100) := by
  unfold gweight
  split
  · exact S_ref P
  · exact ⟨raise2 P.1 (by omega), P.2⟩
theorem B_caller {N0 T0 MI X B b Ln n : Nat} {xs : Nat → Int32} {M : xM} (hn : n ≤ 511) (S : LwS N0 T0 X B b Ln xs n M) : ∃ a M1 M2, xZ T0 MI 65 0 [some (vr (some X)), none] [] M = some (some (vi a), M1) ∧ xZ T0 MI 144 0 [some (vr (some B))] [] M1 = some (some (vi a), M2) ∧ SC X B b Ln xs M1 ∧ LwS N0 T0 X B b Ln xs (n + 1) M2 := by
  obtain ⟨ow, q, L, D⟩ := S
  obtain ⟨R, P, hX, -, -, hT, -⟩ := id D
  have F := P.2
  obtain ⟨N1, N2, N3, N4, N5, N6, N7, N8, N9⟩ := F
  have bb := N_bds N1 (show n ≤ 600 by omega)
  have l82 := bb.2.2.1.2
  obtain ⟨M1, ow1, r1, H1, s1⟩ := P_caller (MI := MI) (o1 := none) R bb N2.1 hT N3.2.2
  have P1 := S_caller P
  have pp : pl q (gcaller q (nu q 45 0) (nu q 12 0)).2 := pl_caller _ _ _
  have pm := phi_mono pp.2.2
  have pg := pp.2.2
  obtain ⟨e1, sc, ls⟩ := LS_go D (by omega) H1 (Nat.le_succ n) s1 ⟨P1.1, NN_up P1.2 (Nat.le_succ n)⟩ (fl2_rf _) (pl_LX pp hX) pp.2.2 (by omega) (by omega)
  have rr := c_caller (T0 := T0) (MI := MI) (B := B) (M := M1) N1.1.2 N1.1.1 N1.2.2.2.1.2 N1.2.2.2.1.1 N2.1.2.1
  rw [e1] at rr
  exact ⟨_, M1, _, r1, rr, sc, ls⟩

theorem B_call {N0 T0 MI X B b Ln n : Nat} {xs : Nat → Int32} {M : xM} (hn : n ≤ 511) (S : LwS N0 T0 X B b Ln xs n M) (x kind key : Int32) (v w : Int64) : ∃ a M1 M2, xZ T0 MI 66 0 [some (vr (some X)), some (vi x), some (vi kind), some (vi key), some (vl v), none, some (vl w), none, none, none, none] [] M = some (some (vi a), M1) ∧ xZ T0 MI 148 0 [some (vr (some B)), some (vi x), some (vi kind), some (vi key), some (vl v), none, some (vl w), none, none, none, none] [] M1 = some (some (vi a), M2) ∧ SC X B b Ln xs M1 ∧ LwS N0 T0 X B b Ln xs (n + 1) M2 := by
  obtain ⟨ow, q, L, D⟩ := S
  obtain ⟨R, P, hX, -, -, hT, -⟩ := id D
  have F := P.2
  obtain ⟨N1, N2, N3, N4, N5, N6, N7, N8, N9⟩ := F
  have bb := N_bds N1 (show n ≤ 600 by omega)
  have l82 := bb.2.2.1.2
  obtain ⟨M1, ow1, r1, H1, s1⟩ := P_call (MI := MI) (x := x) (kind := kind) (key := key) (v := v) (w := w) (o5 := none) (o7 := none) (o8 := none) (o9 := none) (o10 := none) R bb (N_last N6) N5.1 N3.2.1 (N_cal N4)
  have P1 := S_call (x := x) (kind := kind) (key := key) (v := v) (w := w) P
  have pp : pl q (gcall q x kind key v w).2 := pl_call l82 _ _ _ _ _
  have pm := phi_mono pp.2.2
  have pg := pp.2.2
  obtain ⟨e1, sc, ls⟩ := LS_go D (by omega) H1 (Nat.le_succ n) s1 ⟨P1.1, NN_up P1.2 (Nat.le_succ n)⟩ (fl2_rf _) (pl_LX pp hX) pp.2.2 (by omega) (by omega)
  have rr := c_call (T0 := T0) (MI := MI) (B := B) (M := M1) (x := x) (kind := kind) (key := key) (v := v) (w := w) (o5 := none) (o7 := none) (o8 := none) (o9 := none) (o10 := none) N1.1 N1.2.1 N1.2.2.1
  rw [e1] at rr
  exact ⟨_, M1, _, r1, rr, sc, ls⟩

theorem B_again {N0 T0 MI X B b Ln n : Nat} {xs : Nat → Int32} {M : xM} (hn : n ≤ 511) (S : LwS N0 T0 X B b Ln xs n M) (x y : Int32) : ∃ a M1 M2, xZ T0 MI 67 0 [some (vr (some X)), some (vi x), some (vi y), none, none, none, none] [] M = some (some (vi a), M1) ∧ xZ T0 MI 150 0 [some (vr (some B)), some (vi x), some (vi y)] [] M1 = some (some (vi a), M2) ∧ SC X B b Ln xs M1 ∧ LwS N0 T0 X B b Ln xs (n + 1) M2 := by
  obtain ⟨ow, q, L, D⟩ := S
  obtain ⟨R, P, hX, -, -, hT, -⟩ := id D
  have F := P.2
  obtain ⟨N1, N2, N3, N4, N5, N6, N7, N8, N9⟩ := F
  have bb := N_bds N1 (show n ≤ 600 by omega)
  have l82 := bb.2.2.1.2
  obtain ⟨M1, ow1, r1, H1, s1⟩ := P_again (MI := MI) (x := x) (y := y) (o3 := none) (o4 := none) (o5 := none) (o6 := none) R bb (N_last N6) N5.1 (N_key N1 N3)
  have P1 := S_again (x := x) (y := y) P
  have pp : pl q (gagain q x y).2 := pl_again l82 _ _
  have pm := phi_mono pp.2.2
  have pg := pp.2.2
  obtain ⟨e1, sc, ls⟩ := LS_go D (by omega) H1 (Nat.le_succ n) s1 ⟨P1.1, NN_up P1.2 (Nat.le_succ n)⟩ (fl2_rf _) (pl_LX pp hX) pp.2.2 (by omega) (by omega)
  have rr := c_again (T0 := T0) (MI := MI) (B := B) (M := M1) (x := x) (y := y) N1.1 N1.2.1 N1.2.2.1 (fun c j hc hj => (N3.1 c j hc hj).1)
  rw [e1] at rr
  exact ⟨_, M1, _, r1, rr, sc, ls⟩

theorem B_answer {N0 T0 MI X B b Ln n : Nat} {xs : Nat → Int32} {M : xM} (hn : n ≤ 511) (S : LwS N0 T0 X B b Ln xs n M) (x y w : Int32) : ∃ a M1 M2, xZ T0 MI 68 0 [some (vr (some X)), some (vi x), some (vi y), some (vi w), none, none] [] M = some (some (vl a), M1) ∧ xZ T0 MI 151 0 [some (vr (some B)), some (vi x), some (vi y), some (vi w), none] [] M1 = some (some (vl a), M2) ∧ SC X B b Ln xs M1 ∧ LwS N0 T0 X B b Ln xs (n + 1) M2 := by
  obtain ⟨ow, q, L, D⟩ := S
  obtain ⟨R, P, hX, -, -, hT, -⟩ := id D
  have F := P.2
  obtain ⟨N1, N2, N3, N4, N5, N6, N7, N8, N9⟩ := F
  have bb := N_bds N1 (show n ≤ 600 by omega)
  have l82 := bb.2.2.1.2
  have r1 := P_answer (MI := MI) (x := x) (y := y) (what := w) (o4 := none) (o5 := none) R bb (fun c j hc hj => (N3.1 c j (by have := N1.1.2; omega) hj).2.2)
  have rr := c_answer (T0 := T0) (MI := MI) (B := B) (M := M) (x := x) (y := y) (what := w) (o4 := none) N1.1 N1.2.1
  have e4 := D.2.2.2.1
  rw [e4] at rr
  exact ⟨_, M, M, r1, rr, LS_sc D, LS_up D⟩

theorem B_learn {N0 T0 MI X B b Ln n : Nat} {xs : Nat → Int32} {M : xM} (hn : n ≤ 511) (S : LwS N0 T0 X B b Ln xs n M) (x : Int32) : ∃ a M1 M2, xZ T0 MI 69 0 [some (vr (some X)), some (vi x), none] [] M = some (some (vi a), M1) ∧ xZ T0 MI 152 0 [some (vr (some B)), some (vi x)] [] M1 = some (some (vi a), M2) ∧ SC X B b Ln xs M1 ∧ LwS N0 T0 X B b Ln xs (n + 1) M2 := by
  obtain ⟨ow, q, L, D⟩ := S
  obtain ⟨R, P, hX, -, -, hT, -⟩ := id D
  have F := P.2
  obtain ⟨N1, N2, N3, N4, N5, N6, N7, N8, N9⟩ := F
  have bb := N_bds N1 (show n ≤ 600 by omega)
  have l82 := bb.2.2.1.2
  obtain ⟨M1, ow1, r1, H1, s1⟩ := P_learn (MI := MI) (x := x) (o2 := none) R bb N2.1
  have P1 := S_learn (x := x) P
  have pp : pl q (glearnP q x).2 := pl_learn _ _
  have pm := phi_mono pp.2.2
  have pg := pp.2.2
  obtain ⟨e1, sc, ls⟩ := LS_go D (by omega) H1 (Nat.le_succ n) s1 ⟨P1.1, NN_up P1.2 (Nat.le_succ n)⟩ (fl2_rf _) (pl_LX pp hX) pp.2.2 (by omega) (by omega)
  have rr := c_learn (T0 := T0) (MI := MI) (B := B) (M := M1) (x := x) N1.1 N1.2.2.2.1 N2.1.2.1
  rw [e1] at rr
  exact ⟨_, M1, _, r1, rr, sc, ls⟩

theorem B_copy {N0 T0 MI X B b Ln n : Nat} {xs : Nat → Int32} {M : xM} (hn : n ≤ 511) (S : LwS N0 T0 X B b Ln xs n M) (x y w : Int32) : ∃ a M1 M2, xZ T0 MI 70 0 [some (vr (some X)), some (vi x), some (vi y), some (vi w), none, none] [] M = some (some (vi a), M1) ∧ xZ T0 MI 154 0 [some (vr (some B)), some (vi x), some (vi y), some (vi w), none] [] M1 = some (some (vi a), M2) ∧ SC X B b Ln xs M1 ∧ LwS N0 T0 X B b Ln xs (n + 1) M2 := by
  obtain ⟨ow, q, L, D⟩ := S
  obtain ⟨R, P, hX, -, -, hT, -⟩ := id D
  have F := P.2
  obtain ⟨N1, N2, N3, N4, N5, N6, N7, N8, N9⟩ := F
  have bb := N_bds N1 (show n ≤ 600 by omega)
  have l82 := bb.2.2.1.2
  have r1 := P_copy (MI := MI) (x := x) (key := y) (what := w) (o4 := none) (o5 := none) R bb
  have rr := c_copy (T0 := T0) (MI := MI) (B := B) (M := M) (x := x) (key := y) (what := w) (o4 := none) N1.1
  have e4 := D.2.2.2.1
  rw [e4] at rr
  exact ⟨_, M, M, r1, rr, LS_sc D, LS_up D⟩

theorem B_move {N0 T0 MI X B b Ln n : Nat} {xs : Nat → Int32} {M : xM} (hn : n ≤ 511) (S : LwS N0 T0 X B b Ln xs n M) (x y : Int32) : ∃ a M1 M2, xZ T0 MI 71 0 [some (vr (some X)), some (vi x), some (vi y), none] [] M = some (some (vi a), M1) ∧ xZ T0 MI 155 0 [some (vr (some B)), some (vi x), some (vi y)] [] M1 = some (some (vi a), M2) ∧ SC X B b Ln xs M1 ∧ LwS N0 T0 X B b Ln xs (n + 1) M2 := by
  obtain ⟨ow, q, L, D⟩ := S
  obtain ⟨R, P, hX, -, -, hT, -⟩ := id D
  have F := P.2
  obtain ⟨N1, N2, N3, N4, N5, N6, N7, N8, N9⟩ := F
  have bb := N_bds N1 (show n ≤ 600 by omega)
  have l82 := bb.2.2.1.2
  obtain ⟨M1, ow1, r1, H1, s1⟩ := P_move (MI := MI) (x := x) (y := y) (o3 := none) R ⟨bb, N_last N6, N5.1⟩ N2.1
  have P1 := S_move (x := x) (y := y) P ⟨by omega, by omega⟩
  have pp : pl q (gmove q x y).2 := pl_move l82 _ _
  have pm := phi_mono pp.2.2
  have pg := pp.2.2
  obtain ⟨e1, sc, ls⟩ := LS_go D (by omega) H1 (Nat.le_succ n) s1 ⟨P1.1, NN_up P1.2 (Nat.le_succ n)⟩ (fl2_rf _) (pl_LX pp hX) pp.2.2 (by omega) (by omega)
  have rr := c_move (T0 := T0) (MI := MI) (B := B) (M := M1) (x := x) (y := y) N1.2.2.2.1 (N_xb N2.1) N1.2.2.1 N2.1.2.2.2.2.2.1
  rw [e1] at rr
  exact ⟨_, M1, _, r1, rr, sc, ls⟩

theorem B_undo {N0 T0 MI X B b Ln n : Nat} {xs : Nat → Int32} {M : xM} (hn : n ≤ 511) (S : LwS N0 T0 X B b Ln xs n M) (x : Int32) : ∃ a M1 M2, xZ T0 MI 72 0 [some (vr (some X)), some (vi x), none] [] M = some (some (vi a), M1) ∧ xZ T0 MI 158 0 [some (vr (some B)), some (vi x)] [] M1 = some (some (vi a), M2) ∧ SC X B b Ln xs M1 ∧ LwS N0 T0 X B b Ln xs (n + 1) M2 := by
  obtain ⟨ow, q, L, D⟩ := S
  obtain ⟨R, P, hX, -, -, hT, -⟩ := id D
  have F := P.2
  obtain ⟨N1, N2, N3, N4, N5, N6, N7, N8, N9⟩ := F
  have bb := N_bds N1 (show n ≤ 600 by omega)
  have l82 := bb.2.2.1.2
  obtain ⟨M1, ow1, r1, H1, s1⟩ := P_undo (MI := MI) (x := x) (o2 := none) R ⟨bb, N_last N6, N5.1⟩ N2.1 (N_mv N1.2.2.2.1.2 P.1)
  have P1 := S_undo (x := x) P ⟨by omega, by omega⟩
  have pp : pl q (gundo q x).2 := pl_undo _
  have pm := phi_mono pp.2.2
  have pg := pp.2.2
  obtain ⟨e1, sc, ls⟩ := LS_go D (by omega) H1 (Nat.le_succ n) s1 ⟨P1.1, NN_up P1.2 (Nat.le_succ n)⟩ (fl2_rf _) (pl_LX pp hX) pp.2.2 (by omega) (by omega)
  have rr := c_undo (T0 := T0) (MI := MI) (B := B) (M := M1) (x := x) N1.2.2.2.1 (N_xb N2.1) N1.2.2.1
  rw [e1] at rr
  exact ⟨_, M1, _, r1, rr, sc, ls⟩

theorem B_lose {N0 T0 MI X B b Ln n : Nat} {xs : Nat → Int32} {M : xM} (hn : n ≤ 511) (S : LwS N0 T0 X B b Ln xs n M) (x : Int32) : ∃ a M1 M2, xZ T0 MI 84 0 [some (vr (some X)), some (vi x), none] [] M = some (some (vi a), M1) ∧ xZ T0 MI 186 0 [some (vr (some B)), some (vi x)] [] M1 = some (some (vi a), M2) ∧ SC X B b Ln xs M1 ∧ LwS N0 T0 X B b Ln xs (n + 1) M2 := by
  obtain ⟨ow, q, L, D⟩ := S
  obtain ⟨R, P, hX, -, -, hT, -⟩ := id D
  have F := P.2
  obtain ⟨N1, N2, N3, N4, N5, N6, N7, N8, N9⟩ := F
  have bb := N_bds N1 (show n ≤ 600 by omega)
  have l82 := bb.2.2.1.2
  obtain ⟨M1, ow1, r1, H1, s1⟩ := P_lose (MI := MI) (x := x) (o2 := none) R bb
  have P1 := S_lose (x := x) P
  have pp : pl q (glose q (nu q 82 0) x).2 := pl_lose _ _ _
  have pm := phi_mono pp.2.2
  have pg := pp.2.2
  obtain ⟨e1, sc, ls⟩ := LS_go D (by omega) H1 (Nat.le_succ n) s1 ⟨P1.1, NN_up P1.2 (Nat.le_succ n)⟩ (fl2_rf _) (pl_LX pp hX) pp.2.2 (by omega) (by omega)
  have rr := c_lose (T0 := T0) (MI := MI) (B := B) (M := M1) (x := x) N1.2.2.1.2 N1.2.2.1.1
  rw [e1] at rr
  exact ⟨_, M1, _, r1, rr, sc, ls⟩

theorem B_fall {N0 T0 MI X B b Ln n : Nat} {xs : Nat → Int32} {M : xM} (hn : n ≤ 511) (S : LwS N0 T0 X B b Ln xs n M) (x : Int32) : ∃ a M1 M2, xZ T0 MI 77 0 [some (vr (some X)), some (vi x), none] [] M = some (some (vi a), M1) ∧ xZ T0 MI 187 0 [some (vr (some B)), some (vi x), none, none] [] M1 = some (some (vi a), M2) ∧ SC X B b Ln xs M1 ∧ LwS N0 T0 X B b Ln xs (n + 1) M2 := by
  obtain ⟨ow, q, L, D⟩ := S
  obtain ⟨R, P, hX, -, -, hT, -⟩ := id D
  have F := P.2
  obtain ⟨N1, N2, N3, N4, N5, N6, N7, N8, N9⟩ := F
  have bb := N_bds N1 (show n ≤ 600 by omega)
  have l82 := bb.2.2.1.2
  obtain ⟨M1, ow1, r1, H1, s1⟩ := P_fall (MI := MI) (x := x) (o2 := none) R bb
  have P1 := S_fall (x := x) P
  have pp : pl q (gfall q x).2 := pl_fall _ _
  have pm := phi_mono pp.2.2
  have pg := pp.2.2
  obtain ⟨e1, sc, ls⟩ := LS_go D (by omega) H1 (Nat.le_succ n) s1 ⟨P1.1, NN_up P1.2 (Nat.le_succ n)⟩ (fl2_rf _) (pl_LX pp hX) pp.2.2 (by omega) (by omega)
  have rr := c_fall (T0 := T0) (MI := MI) (B := B) (M := M1) (q := q) (x := x) (o2 := none) (o3 := none)
  rw [e1] at rr
  exact ⟨_, M1, _, r1, rr, sc, ls⟩

theorem B_rise {N0 T0 MI X B b Ln n : Nat} {xs : Nat → Int32} {M : xM} (hn : n ≤ 511) (S : LwS N0 T0 X B b Ln xs n M) (x : Int32) : ∃ a M1 M2, xZ T0 MI 78 0 [some (vr (some X)), some (vi x), none] [] M = some (some (vi a), M1) ∧ xZ T0 MI 188 0 [some (vr (some B)), some (vi x)] [] M1 = some (some (vi a), M2) ∧ SC X B b Ln xs M1 ∧ LwS N0 T0 X B b Ln xs (n + 1) M2 := by
  obtain ⟨ow, q, L, D⟩ := S
  obtain ⟨R, P, hX, -, -, hT, -⟩ := id D
  have F := P.2
  obtain ⟨N1, N2, N3, N4, N5, N6, N7, N8, N9⟩ := F
  have bb := N_bds N1 (show n ≤ 600 by omega)
  have l82 := bb.2.2.1.2
  obtain ⟨M1, ow1, r1, H1, s1⟩ := P_rise (MI := MI) (x := x) (o2 := none) R bb
  have P1 := S_rise (x := x) P
  have pp : pl q (grise q x).2 := pl_rise _ _
  have pm := phi_mono pp.2.2
  have pg := pp.2.2
  obtain ⟨e1, sc, ls⟩ := LS_go D (by omega) H1 (Nat.le_succ n) s1 ⟨P1.1, NN_up P1.2 (Nat.le_succ n)⟩ (fl2_rf _) (pl_LX pp hX) pp.2.2 (by omega) (by omega)
  have rr := c_rise (T0 := T0) (MI := MI) (B := B) (M := M1) (q := q) (x := x)
  rw [e1] at rr
  exact ⟨_, M1, _, r1, rr, sc, ls⟩

theorem B_letter {N0 T0 MI X B b Ln n : Nat} {xs : Nat → Int32} {M : xM} (hn : n ≤ 511) (S : LwS N0 T0 X B b Ln xs n M) (x y : Int32) : ∃ a M1 M2, xZ T0 MI 85 0 [some (vr (some X)), some (vi x), some (vi y), none] [] M = some (some (vi a), M1) ∧ xZ T0 MI 189 0 [some (vr (some B)), some (vi x), some (vi y)] [] M1 = some (some (vi a), M2) ∧ SC X B b Ln xs M1 ∧ LwS N0 T0 X B b Ln xs (n + 1) M2 := by
  obtain ⟨ow, q, L, D⟩ := S
  obtain ⟨R, P, hX, -, -, hT, -⟩ := id D
  have F := P.2
  obtain ⟨N1, N2, N3, N4, N5, N6, N7, N8, N9⟩ := F
  have bb := N_bds N1 (show n ≤ 600 by omega)
  have l82 := bb.2.2.1.2
  have r1 := P_letter (MI := MI) (x := x) (what := y) (o3 := none) R bb
  have rr := c_letter (T0 := T0) (MI := MI) (B := B) (M := M) (x := x) (what := y) N1.2.2.1
  have e4 := D.2.2.2.1
  rw [e4] at rr
  exact ⟨_, M, M, r1, rr, LS_sc D, LS_up D⟩

theorem B_range {N0 T0 MI X B b Ln n : Nat} {xs : Nat → Int32} {M : xM} (hn : n ≤ 511) (S : LwS N0 T0 X B b Ln xs n M) (x y : Int32) : ∃ a M1 M2, xZ T0 MI 75 0 [some (vr (some X)), some (vi x), some (vi y), none] [] M = some (some (vi a), M1) ∧ xZ T0 MI 190 0 [some (vr (some B)), some (vi x), some (vi y), none, none] [] M1 = some (some (vi a), M2) ∧ SC X B b Ln xs M1 ∧ LwS N0 T0 X B b Ln xs (n + 1) M2 := by
  obtain ⟨ow, q, L, D⟩ := S
  obtain ⟨R, P, hX, -, -, hT, -⟩ := id D
  have F := P.2
  obtain ⟨N1, N2, N3, N4, N5, N6, N7, N8, N9⟩ := F
  have bb := N_bds N1 (show n ≤ 600 by omega)
  have l82 := bb.2.2.1.2
  have r1 := P_range (MI := MI) (x := x) (what := y) (o3 := none) R N2.1
  have rr := c_range (T0 := T0) (MI := MI) (B := B) (M := M) (x := x) (what := y) (o3 := none) (o4 := none) N1.2.2.2.1 (N_xb N2.1) N2.1.2.2.2.2.2.1
  have e4 := D.2.2.2.1
  rw [e4] at rr
  exact ⟨_, M, M, r1, rr, LS_sc D, LS_up D⟩

theorem B_at {N0 T0 MI X B b Ln n : Nat} {xs : Nat → Int32} {M : xM} (hn : n ≤ 511) (S : LwS N0 T0 X B b Ln xs n M) (x y w : Int32) : ∃ a M1 M2, xZ T0 MI 79 0 [some (vr (some X)), some (vi x), some (vi y), some (vi w), none, none, none, none] [] M = some (some (vi a), M1) ∧ xZ T0 MI 191 0 [some (vr (some B)), some (vi x), some (vi y), some (vi w), none, none, none, none] [] M1 = some (some (vi a), M2) ∧ SC X B b Ln xs M1 ∧ LwS N0 T0 X B b Ln xs (n + 1) M2 := by
  obtain ⟨ow, q, L, D⟩ := S
  obtain ⟨R, P, hX, -, -, hT, -⟩ := id D
  have F := P.2
  obtain ⟨N1, N2, N3, N4, N5, N6, N7, N8, N9⟩ := F
  have bb := N_bds N1 (show n ≤ 600 by omega)
  have l82 := bb.2.2.1.2
  have r1 := P_at (MI := MI) (x := x) (y := y) (what := w) (o4 := none) (o5 := none) (o6 := none) (o7 := none) R bb
  have rr := c_at (T0 := T0) (MI := MI) (B := B) (M := M) (x := x) (y := y) (what := w) (o4 := none) (o5 := none) (o6 := none) (o7 := none) hX N1.2.2.2.1
  have e4 := D.2.2.2.1
  rw [e4] at rr
  exact ⟨_, M, M, r1, rr, LS_sc D, LS_up D⟩

theorem B_row {N0 T0 MI X B b Ln n : Nat} {xs : Nat → Int32} {M : xM} (hn : n ≤ 511) (S : LwS N0 T0 X B b Ln xs n M) (x y w : Int32) : ∃ a M1 M2, xZ T0 MI 80 0 [some (vr (some X)), some (vi x), some (vi y), some (vi w), none, none] [] M = some (some (vl a), M1) ∧ xZ T0 MI 192 0 [some (vr (some B)), some (vi x), some (vi y), some (vi w), none] [] M1 = some (some (vl a), M2) ∧ SC X B b Ln xs M1 ∧ LwS N0 T0 X B b Ln xs (n + 1) M2 := by
  obtain ⟨ow, q, L, D⟩ := S
  obtain ⟨R, P, hX, -, -, hT, -⟩ := id D
  have F := P.2
  obtain ⟨N1, N2, N3, N4, N5, N6, N7, N8, N9⟩ := F
  have bb := N_bds N1 (show n ≤ 600 by omega)
  have l82 := bb.2.2.1.2
  have r1 := P_row (MI := MI) (x := x) (y := y) (key := w) (o4 := none) (o5 := none) R bb (N_stz P.1)
  have rr := c_row (T0 := T0) (MI := MI) (B := B) (M := M) (x := x) (y := y) (key := w) (o4 := none) hX N1.2.2.2.1
  have e4 := D.2.2.2.1
  rw [e4] at rr
  exact ⟨_, M, M, r1, rr, LS_sc D, LS_up D⟩

theorem B_plan {N0 T0 MI X B b Ln n : Nat} {xs : Nat → Int32} {M : xM} (hn : n ≤ 511) (S : LwS N0 T0 X B b Ln xs n M) : ∃ a M1 M2, xZ T0 MI 82 0 [some (vr (some X)), none, none, none, none, none, none, none, none, none] [] M = some (some (vi a), M1) ∧ xZ T0 MI 195 0 [some (vr (some B)), none, none, none, none, none, none, none] [] M1 = some (some (vi a), M2) ∧ SC X B b Ln xs M1 ∧ LwS N0 T0 X B b Ln xs (n + 1) M2 := by
  obtain ⟨ow, q, L, D⟩ := S
  obtain ⟨R, P, hX, -, -, hT, -⟩ := id D
  have F := P.2
  obtain ⟨N1, N2, N3, N4, N5, N6, N7, N8, N9⟩ := F
  have bb := N_bds N1 (show n ≤ 600 by omega)
  have l82 := bb.2.2.1.2
  have r1 := P_plan (MI := MI) (o1 := none) (o2 := none) (o3 := none) (o4 := none) (o5 := none) (o6 := none) (o7 := none) (o8 := none) (o9 := none) R bb N2.1 hX (N_stz P.1)
  have rr := c_plan (T0 := T0) (MI := MI) (B := B) (M := M) (o1 := none) (o2 := none) (o3 := none) (o4 := none) (o5 := none) (o6 := none) (o7 := none) hX N1.2.2.2.1 N2.1.2.2.2.2.2.1
  have e4 := D.2.2.2.1
  rw [e4] at rr
  exact ⟨_, M, M, r1, rr, LS_sc D, LS_up D⟩

theorem B_order {N0 T0 MI X B b Ln n : Nat} {xs : Nat → Int32} {M : xM} (hn : n ≤ 511) (S : LwS N0 T0 X B b Ln xs n M) (x y : Int32) : ∃ a M1 M2, xZ T0 MI 86 0 [some (vr (some X)), some (vi x), some (vi y), none] [] M = some (some (vi a), M1) ∧ xZ T0 MI 196 0 [some (vr (some B)), some (vi x), some (vi y)] [] M1 = some (some (vi a), M2) ∧ SC X B b Ln xs M1 ∧ LwS N0 T0 X B b Ln xs (n + 1) M2 := by
  obtain ⟨ow, q, L, D⟩ := S
  obtain ⟨R, P, hX, -, -, hT, -⟩ := id D
  have F := P.2
  obtain ⟨N1, N2, N3, N4, N5, N6, N7, N8, N9⟩ := F
  have bb := N_bds N1 (show n ≤ 600 by omega)
  have l82 := bb.2.2.1.2
  have r1 := P_order (MI := MI) (x := x) (what := y) (o3 := none) R bb
  have rr := c_order (T0 := T0) (MI := MI) (B := B) (M := M) (x := x) (what := y) ⟨bb.2.2.2.2.2.1, by have := bb.2.2.2.2.2.2; omega⟩
  have e4 := D.2.2.2.1
  rw [e4] at rr
  exact ⟨_, M, M, r1, rr, LS_sc D, LS_up D⟩

theorem B_status {N0 T0 MI X B b Ln n : Nat} {xs : Nat → Int32} {M : xM} (hn : n ≤ 511) (S : LwS N0 T0 X B b Ln xs n M) (x : Int32) : ∃ a M1 M2, xZ T0 MI 87 0 [some (vr (some X)), some (vi x)] [] M = some (some (vi a), M1) ∧ xZ T0 MI 197 0 [some (vr (some B)), some (vi x), none, none] [] M1 = some (some (vi a), M2) ∧ SC X B b Ln xs M1 ∧ LwS N0 T0 X B b Ln xs (n + 1) M2 := by
  obtain ⟨ow, q, L, D⟩ := S
  obtain ⟨R, P, hX, -, -, hT, -⟩ := id D
  have F := P.2
  obtain ⟨N1, N2, N3, N4, N5, N6, N7, N8, N9⟩ := F
  have bb := N_bds N1 (show n ≤ 600 by omega)
  have l82 := bb.2.2.1.2
  have r1 := P_status (MI := MI) (x := x) R bb
  have rr := c_status (T0 := T0) (MI := MI) (B := B) (M := M) (x := x) (o2 := none) (o3 := none) N1.2.2.2.1
  have e4 := D.2.2.2.1
  rw [e4] at rr
  exact ⟨_, M, M, r1, rr, LS_sc D, LS_up D⟩

theorem B_weight {N0 T0 MI X B b Ln n : Nat} {xs : Nat → Int32} {M : xM} (hn : n ≤ 511) (S : LwS N0 T0 X B b Ln xs n M) (x : Int32) : ∃ a M1 M2, xZ T0 MI 81 0 [some (vr (some X)), some (vi x), none] [] M = some (some (vi a), M1) ∧ xZ T0 MI 194 0 [some (vr (some B)), some (vi x)] [] M1 = some (some (vi a), M2) ∧ SC X B b Ln xs M1 ∧ LwS N0 T0 X B b Ln xs (n + 1) M2 := by
  obtain ⟨ow, q, L, D⟩ := S
  obtain ⟨R, P, hX, -, -, hT, -⟩ := id D
  have F := P.2
  obtain ⟨N1, N2, N3, N4, N5, N6, N7, N8, N9⟩ := F
  have bb := N_bds N1 (show n ≤ 600 by omega)
  have l82 := bb.2.2.1.2
  obtain ⟨M1, r1, H1, s1⟩ := P_weight (MI := MI) (x := x) (o2 := none) R bb hX (N_stz P.1)
  have P1 := S_weight (m := nu q 12 0) (x := x) P
  have pp : pl q (gweight q (nu q 12 0) x).2 := pl_weight _ _ _
  have pm := phi_mono pp.2.2
  have pg := pp.2.2
  obtain ⟨e1, sc, ls⟩ := LS_go D (by omega) H1 (Nat.le_succ n) s1 ⟨P1.1, NN_up P1.2 (Nat.le_succ n)⟩ (fl2_rf _) (pl_LX pp hX) pp.2.2 (by omega) (by omega)
  have rr := c_weight (T0 := T0) (MI := MI) (B := B) (M := M1) (x := x) N1.2.2.2.1.2 N1.2.2.2.1.1
  rw [e1] at rr
  exact ⟨_, M1, _, r1, rr, sc, ls⟩

