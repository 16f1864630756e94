/-! THE LAW'S CASES -/
theorem sc_at {M : xM} {b Ln n j : Nat} {xs : Nat → Int32} {x : Int32} (h : M.2.2 b = .inl (9, Ln, .inl xs)) (hL : Ln ≤ 4096) (hj : 8 * n + j < Ln) (hx : x = nI j) : xaI M b (nI (8 * n) + x) = some (xs (8 * n + j)) := by
  rw [hx, nI_add]
  unfold xaI
  rw [h]
  show (bif (Nat.beq 9 0 || Nat.beq 9 9) && xin (nI (8 * n + j)) Ln then some (xs (nI (8 * n + j)).toNatClampNeg) else none) = _
  rw [xin_t hj (by omega), nI_clamp (by omega)]
  rfl
theorem sc_0 {M : xM} {b Ln n : Nat} {xs : Nat → Int32} (h : M.2.2 b = .inl (9, Ln, .inl xs)) (hL : Ln ≤ 4096) (hj : 8 * n < Ln) : xaI M b (nI (8 * n)) = some (xs (8 * n)) := by
  unfold xaI
  rw [h]
  show (bif (Nat.beq 9 0 || Nat.beq 9 9) && xin (nI (8 * n)) Ln then some (xs (nI (8 * n)).toNatClampNeg) else none) = _
  rw [xin_t hj (by omega), nI_clamp (by omega)]
  rfl
def lp (b X B n : Nat) : List (Option xV) := [some (vr (some b)), some (vr (some X)), some (vr (some B)), some (vi (nI (8 * n)))]
theorem lg_0 (x : Int64) : lg_cmp x x = 0 := by
  unfold lg_cmp
  rw [if_neg (by show ¬ x < x; exact Int64.lt_irrefl), if_pos rfl]
theorem W_caller {N0 T0 MI X B b Ln n : Nat} {xs : Nat → Int32} {M : xM} (hL : Ln ≤ 4096) (hn : 8 * n + 8 ≤ Ln) (S : LwS N0 T0 X B b Ln xs n M) : ∃ M2, LwS N0 T0 X B b Ln xs (n + 1) M2 ∧ xZ T0 MI 222 140 (lp b X B n) [] M = xZ T0 MI 222 905 (lp b X B n) [] M2 := by
  obtain ⟨a, M1, M2, r1, r2, ⟨-, cB, b1⟩, ls⟩ := B_caller (MI := MI) (by omega) S 
  obtain ⟨ow, q, L, D⟩ := S
  obtain ⟨cX, -, b0⟩ := LS_sc D
  refine ⟨M2, ls, ?_⟩
  unfold lp
  rw [bq_222_140]
  simp only [Option.bind_some, cX, cond_true, r1, xasI]
  rw [bq_222_144]
  simp only [Option.bind_some, cB, cond_true, r2, xasI]
  rw [bq_222_148, if_pos rfl]
theorem W_call {N0 T0 MI X B b Ln n : Nat} {xs : Nat → Int32} {M : xM} (hL : Ln ≤ 4096) (hn : 8 * n + 8 ≤ Ln) (S : LwS N0 T0 X B b Ln xs n M) : ∃ M2, LwS N0 T0 X B b Ln xs (n + 1) M2 ∧ xZ T0 MI 222 153 (lp b X B n) [] M = xZ T0 MI 222 905 (lp b X B n) [] M2 := by
  obtain ⟨a, M1, M2, r1, r2, ⟨-, cB, b1⟩, ls⟩ := B_call (MI := MI) (by omega) S (xs (8 * n + 1)) (xs (8 * n + 2)) (xs (8 * n + 3)) (((xs (8 * n + 4)).toInt64 <<< ((Int32.ofInt 32).toInt64 &&& 63)) ||| ((xs (8 * n + 5)).toInt64 &&& (xcL 4294967295))) (((xs (8 * n + 6)).toInt64 <<< ((Int32.ofInt 32).toInt64 &&& 63)) ||| ((xs (8 * n + 7)).toInt64 &&& (xcL 4294967295)))
  obtain ⟨ow, q, L, D⟩ := S
  obtain ⟨cX, -, b0⟩ := LS_sc D
  refine ⟨M2, ls, ?_⟩
  unfold lp
  have s1 := sc_at (n := n) (j := 1) (x := Int32.ofInt 1) b0 hL (by omega) rfl
  have t1 := sc_at (n := n) (j := 1) (x := Int32.ofInt 1) b1 hL (by omega) rfl
  have s2 := sc_at (n := n) (j := 2) (x := Int32.ofInt 2) b0 hL (by omega) rfl
  have t2 := sc_at (n := n) (j := 2) (x := Int32.ofInt 2) b1 hL (by omega) rfl
  have s3 := sc_at (n := n) (j := 3) (x := Int32.ofInt 3) b0 hL (by omega) rfl
  have t3 := sc_at (n := n) (j := 3) (x := Int32.ofInt 3) b1 hL (by omega) rfl
  have s4 := sc_at (n := n) (j := 4) (x := Int32.ofInt 4) b0 hL (by omega) rfl
  have t4 := sc_at (n := n) (j := 4) (x := Int32.ofInt 4) b1 hL (by omega) rfl
  have s5 := sc_at (n := n) (j := 5) (x := Int32.ofInt 5) b0 hL (by omega) rfl
  have t5 := sc_at (n := n) (j := 5) (x := Int32.ofInt 5) b1 hL (by omega) rfl
  have s6 := sc_at (n := n) (j := 6) (x := Int32.ofInt 6) b0 hL (by omega) rfl
  have t6 := sc_at (n := n) (j := 6) (x := Int32.ofInt 6) b1 hL (by omega) rfl
  have s7 := sc_at (n := n) (j := 7) (x := Int32.ofInt 7) b0 hL (by omega) rfl
  have t7 := sc_at (n := n) (j := 7) (x := Int32.ofInt 7) b1 hL (by omega) rfl
  rw [bq_222_153]
  simp only [Option.bind_some, s1, s2, s3, s4, s5, s6, s7, cX, cond_true, r1, xasI]
  rw [bq_222_214]
  simp only [Option.bind_some, t1, t2, t3, t4, t5, t6, t7, cB, cond_true, r2, xasI]
  rw [bq_222_275, if_pos rfl]
theorem W_again {N0 T0 MI X B b Ln n : Nat} {xs : Nat → Int32} {M : xM} (hL : Ln ≤ 4096) (hn : 8 * n + 8 ≤ Ln) (S : LwS N0 T0 X B b Ln xs n M) : ∃ M2, LwS N0 T0 X B b Ln xs (n + 1) M2 ∧ xZ T0 MI 222 280 (lp b X B n) [] M = xZ T0 MI 222 905 (lp b X B n) [] M2 := by
  obtain ⟨a, M1, M2, r1, r2, ⟨-, cB, b1⟩, ls⟩ := B_again (MI := MI) (by omega) S (xs (8 * n + 1)) (xs (8 * n + 2))
  obtain ⟨ow, q, L, D⟩ := S
  obtain ⟨cX, -, b0⟩ := LS_sc D
  refine ⟨M2, ls, ?_⟩
  unfold lp
  have s1 := sc_at (n := n) (j := 1) (x := Int32.ofInt 1) b0 hL (by omega) rfl
  have t1 := sc_at (n := n) (j := 1) (x := Int32.ofInt 1) b1 hL (by omega) rfl
  have s2 := sc_at (n := n) (j := 2) (x := Int32.ofInt 2) b0 hL (by omega) rfl
  have t2 := sc_at (n := n) (j := 2) (x := Int32.ofInt 2) b1 hL (by omega) rfl
  rw [bq_222_280]
  simp only [Option.bind_some, s1, s2, cX, cond_true, r1, xasI]
  rw [bq_222_294]
  simp only [Option.bind_some, t1, t2, cB, cond_true, r2, xasI]
  rw [bq_222_308, if_pos rfl]
theorem W_answer {N0 T0 MI X B b Ln n : Nat} {xs : Nat → Int32} {M : xM} (hL : Ln ≤ 4096) (hn : 8 * n + 8 ≤ Ln) (S : LwS N0 T0 X B b Ln xs n M) : ∃ M2, LwS N0 T0 X B b Ln xs (n + 1) M2 ∧ xZ T0 MI 222 313 (lp b X B n) [] M = xZ T0 MI 222 905 (lp b X B n) [] M2 := by
  obtain ⟨a, M1, M2, r1, r2, ⟨-, cB, b1⟩, ls⟩ := B_answer (MI := MI) (by omega) S (xs (8 * n + 1)) (xs (8 * n + 2)) (xs (8 * n + 3))
  obtain ⟨ow, q, L, D⟩ := S
  obtain ⟨cX, -, b0⟩ := LS_sc D
  refine ⟨M2, ls, ?_⟩
  unfold lp
  have s1 := sc_at (n := n) (j := 1) (x := Int32.ofInt 1) b0 hL (by omega) rfl
  have t1 := sc_at (n := n) (j := 1) (x := Int32.ofInt 1) b1 hL (by omega) rfl
  have s2 := sc_at (n := n) (j := 2) (x := Int32.ofInt 2) b0 hL (by omega) rfl
  have t2 := sc_at (n := n) (j := 2) (x := Int32.ofInt 2) b1 hL (by omega) rfl
  have s3 := sc_at (n := n) (j := 3) (x := Int32.ofInt 3) b0 hL (by omega) rfl
  have t3 := sc_at (n := n) (j := 3) (x := Int32.ofInt 3) b1 hL (by omega) rfl
  rw [bq_222_313]
  simp only [Option.bind_some, s1, s2, s3, cX, cond_true, r1, xasL]
  rw [bq_222_332]
  simp only [Option.bind_some, t1, t2, t3, cB, cond_true, r2, xasL]
  rw [bq_222_351, if_pos (lg_0 _)]
theorem W_learn {N0 T0 MI X B b Ln n : Nat} {xs : Nat → Int32} {M : xM} (hL : Ln ≤ 4096) (hn : 8 * n + 8 ≤ Ln) (S : LwS N0 T0 X B b Ln xs n M) : ∃ M2, LwS N0 T0 X B b Ln xs (n + 1) M2 ∧ xZ T0 MI 222 357 (lp b X B n) [] M = xZ T0 MI 222 905 (lp b X B n) [] M2 := by
  obtain ⟨a, M1, M2, r1, r2, ⟨-, cB, b1⟩, ls⟩ := B_learn (MI := MI) (by omega) S (xs (8 * n + 1))
  obtain ⟨ow, q, L, D⟩ := S
  obtain ⟨cX, -, b0⟩ := LS_sc D
  refine ⟨M2, ls, ?_⟩
  unfold lp
  have s1 := sc_at (n := n) (j := 1) (x := Int32.ofInt 1) b0 hL (by omega) rfl
  have t1 := sc_at (n := n) (j := 1) (x := Int32.ofInt 1) b1 hL (by omega) rfl
  rw [bq_222_357]
  simp only [Option.bind_some, s1, cX, cond_true, r1, xasI]
  rw [bq_222_366]
  simp only [Option.bind_some, t1, cB, cond_true, r2, xasI]
  rw [bq_222_375, if_pos rfl]
theorem W_copy {N0 T0 MI X B b Ln n : Nat} {xs : Nat → Int32} {M : xM} (hL : Ln ≤ 4096) (hn : 8 * n + 8 ≤ Ln) (S : LwS N0 T0 X B b Ln xs n M) : ∃ M2, LwS N0 T0 X B b Ln xs (n + 1) M2 ∧ xZ T0 MI 222 380 (lp b X B n) [] M = xZ T0 MI 222 905 (lp b X B n) [] M2 := by
  obtain ⟨a, M1, M2, r1, r2, ⟨-, cB, b1⟩, ls⟩ := B_copy (MI := MI) (by omega) S (xs (8 * n + 1)) (xs (8 * n + 2)) (xs (8 * n + 3))
  obtain ⟨ow, q, L, D⟩ := S
  obtain ⟨cX, -, b0⟩ := LS_sc D
  refine ⟨M2, ls, ?_⟩
  unfold lp
  have s1 := sc_at (n := n) (j := 1) (x := Int32.ofInt 1) b0 hL (by omega) rfl
  have t1 := sc_at (n := n) (j := 1) (x := Int32.ofInt 1) b1 hL (by omega) rfl
  have s2 := sc_at (n := n) (j := 2) (x := Int32.ofInt 2) b0 hL (by omega) rfl
  have t2 := sc_at (n := n) (j := 2) (x := Int32.ofInt 2) b1 hL (by omega) rfl
  have s3 := sc_at (n := n) (j := 3) (x := Int32.ofInt 3) b0 hL (by omega) rfl
  have t3 := sc_at (n := n) (j := 3) (x := Int32.ofInt 3) b1 hL (by omega) rfl
  rw [bq_222_380]
  simp only [Option.bind_some, s1, s2, s3, cX, cond_true, r1, xasI]
  rw [bq_222_399]
  simp only [Option.bind_some, t1, t2, t3, cB, cond_true, r2, xasI]
  rw [bq_222_418, if_pos rfl]
theorem W_move {N0 T0 MI X B b Ln n : Nat} {xs : Nat → Int32} {M : xM} (hL : Ln ≤ 4096) (hn : 8 * n + 8 ≤ Ln) (S : LwS N0 T0 X B b Ln xs n M) : ∃ M2, LwS N0 T0 X B b Ln xs (n + 1) M2 ∧ xZ T0 MI 222 423 (lp b X B n) [] M = xZ T0 MI 222 905 (lp b X B n) [] M2 := by
  obtain ⟨a, M1, M2, r1, r2, ⟨-, cB, b1⟩, ls⟩ := B_move (MI := MI) (by omega) S (xs (8 * n + 1)) (xs (8 * n + 2))
  obtain ⟨ow, q, L, D⟩ := S
  obtain ⟨cX, -, b0⟩ := LS_sc D
  refine ⟨M2, ls, ?_⟩
  unfold lp
  have s1 := sc_at (n := n) (j := 1) (x := Int32.ofInt 1) b0 hL (by omega) rfl
  have t1 := sc_at (n := n) (j := 1) (x := Int32.ofInt 1) b1 hL (by omega) rfl
  have s2 := sc_at (n := n) (j := 2) (x := Int32.ofInt 2) b0 hL (by omega) rfl
  have t2 := sc_at (n := n) (j := 2) (x := Int32.ofInt 2) b1 hL (by omega) rfl
  rw [bq_222_423]
  simp only [Option.bind_some, s1, s2, cX, cond_true, r1, xasI]
  rw [bq_222_437]
  simp only [Option.bind_some, t1, t2, cB, cond_true, r2, xasI]
  rw [bq_222_451, if_pos rfl]
theorem W_undo {N0 T0 MI X B b Ln n : Nat} {xs : Nat → Int32} {M : xM} (hL : Ln ≤ 4096) (hn : 8 * n + 8 ≤ Ln) (S : LwS N0 T0 X B b Ln xs n M) : ∃ M2, LwS N0 T0 X B b Ln xs (n + 1) M2 ∧ xZ T0 MI 222 456 (lp b X B n) [] M = xZ T0 MI 222 905 (lp b X B n) [] M2 := by
  obtain ⟨a, M1, M2, r1, r2, ⟨-, cB, b1⟩, ls⟩ := B_undo (MI := MI) (by omega) S (xs (8 * n + 1))
  obtain ⟨ow, q, L, D⟩ := S
  obtain ⟨cX, -, b0⟩ := LS_sc D
  refine ⟨M2, ls, ?_⟩
  unfold lp
  have s1 := sc_at (n := n) (j := 1) (x := Int32.ofInt 1) b0 hL (by omega) rfl
  have t1 := sc_at (n := n) (j := 1) (x := Int32.ofInt 1) b1 hL (by omega) rfl
  rw [bq_222_456]
  simp only [Option.bind_some, s1, cX, cond_true, r1, xasI]
  rw [bq_222_465]
  simp only [Option.bind_some, t1, cB, cond_true, r2, xasI]
  rw [bq_222_474, if_pos rfl]
theorem W_split {N0 T0 MI X B b Ln n : Nat} {xs : Nat → Int32} {M : xM} (hL : Ln ≤ 4096) (hn : 8 * n + 8 ≤ Ln) (S : LwS N0 T0 X B b Ln xs n M) : ∃ M2, LwS N0 T0 X B b Ln xs (n + 1) M2 ∧ xZ T0 MI 222 479 (lp b X B n) [] M = xZ T0 MI 222 905 (lp b X B n) [] M2 := by
  obtain ⟨a, M1, M2, r1, r2, ⟨-, cB, b1⟩, ls⟩ := B_split (MI := MI) (by omega) S (xs (8 * n + 1)) (xs (8 * n + 2))
  obtain ⟨ow, q, L, D⟩ := S
  obtain ⟨cX, -, b0⟩ := LS_sc D
  refine ⟨M2, ls, ?_⟩
  unfold lp
  have s1 := sc_at (n := n) (j := 1) (x := Int32.ofInt 1) b0 hL (by omega) rfl
  have t1 := sc_at (n := n) (j := 1) (x := Int32.ofInt 1) b1 hL (by omega) rfl
  have s2 := sc_at (n := n) (j := 2) (x := Int32.ofInt 2) b0 hL (by omega) rfl
  have t2 := sc_at (n := n) (j := 2) (x := Int32.ofInt 2) b1 hL (by omega) rfl
  rw [bq_222_479]
  simp only [Option.bind_some, s1, s2, cX, cond_true, r1, xasI]
  rw [bq_222_493]
  simp only [Option.bind_some, t1, t2, cB, cond_true, r2, xasI]
  rw [bq_222_507, if_pos rfl]
theorem W_merge {N0 T0 MI X B b Ln n : Nat} {xs : Nat → Int32} {M : xM} (hL : Ln ≤ 4096) (hn : 8 * n + 8 ≤ Ln) (S : LwS N0 T0 X B b Ln xs n M) : ∃ M2, LwS N0 T0 X B b Ln xs (n + 1) M2 ∧ xZ T0 MI 222 512 (lp b X B n) [] M = xZ T0 MI 222 905 (lp b X B n) [] M2 := by
  obtain ⟨a, M1, M2, r1, r2, ⟨-, cB, b1⟩, ls⟩ := B_merge (MI := MI) (by omega) S (xs (8 * n + 1)) (xs (8 * n + 2))
  obtain ⟨ow, q, L, D⟩ := S
  obtain ⟨cX, -, b0⟩ := LS_sc D
  refine ⟨M2, ls, ?_⟩
  unfold lp
  have s1 := sc_at (n := n) (j := 1) (x := Int32.ofInt 1) b0 hL (by omega) rfl
  have t1 := sc_at (n := n) (j := 1) (x := Int32.ofInt 1) b1 hL (by omega) rfl
  have s2 := sc_at (n := n) (j := 2) (x := Int32.ofInt 2) b0 hL (by omega) rfl
  have t2 := sc_at (n := n) (j := 2) (x := Int32.ofInt 2) b1 hL (by omega) rfl
  rw [bq_222_512]
  simp only [Option.bind_some, s1, s2, cX, cond_true, r1, xasI]
  rw [bq_222_526]
  simp only [Option.bind_some, t1, t2, cB, cond_true, r2, xasI]
  rw [bq_222_540, if_pos rfl]
theorem W_step {N0 T0 MI X B b Ln n : Nat} {xs : Nat → Int32} {M : xM} (hL : Ln ≤ 4096) (hn : 8 * n + 8 ≤ Ln) (S : LwS N0 T0 X B b Ln xs n M) : ∃ M2, LwS N0 T0 X B b Ln xs (n + 1) M2 ∧ xZ T0 MI 222 545 (lp b X B n) [] M = xZ T0 MI 222 905 (lp b X B n) [] M2 := by
  obtain ⟨a, M1, M2, r1, r2, ⟨-, cB, b1⟩, ls⟩ := B_step (MI := MI) (by omega) S (xs (8 * n + 1))
  obtain ⟨ow, q, L, D⟩ := S
  obtain ⟨cX, -, b0⟩ := LS_sc D
  refine ⟨M2, ls, ?_⟩
  unfold lp
  have s1 := sc_at (n := n) (j := 1) (x := Int32.ofInt 1) b0 hL (by omega) rfl
  have t1 := sc_at (n := n) (j := 1) (x := Int32.ofInt 1) b1 hL (by omega) rfl
  rw [bq_222_545]
  simp only [Option.bind_some, s1, cX, cond_true, r1, xasI]
  rw [bq_222_554]
  simp only [Option.bind_some, t1, cB, cond_true, r2, xasI]
  rw [bq_222_563, if_pos rfl]
theorem W_deliver {N0 T0 MI X B b Ln n : Nat} {xs : Nat → Int32} {M : xM} (hL : Ln ≤ 4096) (hn : 8 * n + 8 ≤ Ln) (S : LwS N0 T0 X B b Ln xs n M) : ∃ M2, LwS N0 T0 X B b Ln xs (n + 1) M2 ∧ xZ T0 MI 222 568 (lp b X B n) [] M = xZ T0 MI 222 905 (lp b X B n) [] M2 := by
  obtain ⟨a, M1, M2, r1, r2, ⟨-, cB, b1⟩, ls⟩ := B_deliver (MI := MI) (by omega) S (xs (8 * n + 1))
  obtain ⟨ow, q, L, D⟩ := S
  obtain ⟨cX, -, b0⟩ := LS_sc D
  refine ⟨M2, ls, ?_⟩
  unfold lp
  have s1 := sc_at (n := n) (j := 1) (x := Int32.ofInt 1) b0 hL (by omega) rfl
  have t1 := sc_at (n := n) (j := 1) (x := Int32.ofInt 1) b1 hL (by omega) rfl
  rw [bq_222_568]
  simp only [Option.bind_some, s1, cX, cond_true, r1, xasI]
  rw [bq_222_577]
  simp only [Option.bind_some, t1, cB, cond_true, r2, xasI]
  rw [bq_222_586, if_pos rfl]
theorem W_lose {N0 T0 MI X B b Ln n : Nat} {xs : Nat → Int32} {M : xM} (hL : Ln ≤ 4096) (hn : 8 * n + 8 ≤ Ln) (S : LwS N0 T0 X B b Ln xs n M) : ∃ M2, LwS N0 T0 X B b Ln xs (n + 1) M2 ∧ xZ T0 MI 222 591 (lp b X B n) [] M = xZ T0 MI 222 905 (lp b X B n) [] M2 := by
  obtain ⟨a, M1, M2, r1, r2, ⟨-, cB, b1⟩, ls⟩ := B_lose (MI := MI) (by omega) S (xs (8 * n + 1))
  obtain ⟨ow, q, L, D⟩ := S
  obtain ⟨cX, -, b0⟩ := LS_sc D
  refine ⟨M2, ls, ?_⟩
  unfold lp
  have s1 := sc_at (n := n) (j := 1) (x := Int32.ofInt 1) b0 hL (by omega) rfl
  have t1 := sc_at (n := n) (j := 1) (x := Int32.ofInt 1) b1 hL (by omega) rfl
  rw [bq_222_591]
  simp only [Option.bind_some, s1, cX, cond_true, r1, xasI]
  rw [bq_222_600]
  simp only [Option.bind_some, t1, cB, cond_true, r2, xasI]
  rw [bq_222_609, if_pos rfl]
theorem W_fall {N0 T0 MI X B b Ln n : Nat} {xs : Nat → Int32} {M : xM} (hL : Ln ≤ 4096) (hn : 8 * n + 8 ≤ Ln) (S : LwS N0 T0 X B b Ln xs n M) : ∃ M2, LwS N0 T0 X B b Ln xs (n + 1) M2 ∧ xZ T0 MI 222 614 (lp b X B n) [] M = xZ T0 MI 222 905 (lp b X B n) [] M2 := by
  obtain ⟨a, M1, M2, r1, r2, ⟨-, cB, b1⟩, ls⟩ := B_fall (MI := MI) (by omega) S (xs (8 * n + 1))
  obtain ⟨ow, q, L, D⟩ := S
  obtain ⟨cX, -, b0⟩ := LS_sc D
  refine ⟨M2, ls, ?_⟩
  unfold lp
  have s1 := sc_at (n := n) (j := 1) (x := Int32.ofInt 1) b0 hL (by omega) rfl
  have t1 := sc_at (n := n) (j := 1) (x := Int32.ofInt 1) b1 hL (by omega) rfl
  rw [bq_222_614]
  simp only [Option.bind_some, s1, cX, cond_true, r1, xasI]
  rw [bq_222_623]
  simp only [Option.bind_some, t1, cB, cond_true, r2, xasI]
  rw [bq_222_632, if_pos rfl]
theorem W_rise {N0 T0 MI X B b Ln n : Nat} {xs : Nat → Int32} {M : xM} (hL : Ln ≤ 4096) (hn : 8 * n + 8 ≤ Ln) (S : LwS N0 T0 X B b Ln xs n M) : ∃ M2, LwS N0 T0 X B b Ln xs (n + 1) M2 ∧ xZ T0 MI 222 637 (lp b X B n) [] M = xZ T0 MI 222 905 (lp b X B n) [] M2 := by
  obtain ⟨a, M1, M2, r1, r2, ⟨-, cB, b1⟩, ls⟩ := B_rise (MI := MI) (by omega) S (xs (8 * n + 1))
  obtain ⟨ow, q, L, D⟩ := S
  obtain ⟨cX, -, b0⟩ := LS_sc D
  refine ⟨M2, ls, ?_⟩
  unfold lp
  have s1 := sc_at (n := n) (j := 1) (x := Int32.ofInt 1) b0 hL (by omega) rfl
  have t1 := sc_at (n := n) (j := 1) (x := Int32.ofInt 1) b1 hL (by omega) rfl
  rw [bq_222_637]
  simp only [Option.bind_some, s1, cX, cond_true, r1, xasI]
  rw [bq_222_646]
  simp only [Option.bind_some, t1, cB, cond_true, r2, xasI]
  rw [bq_222_655, if_pos rfl]
theorem W_letter {N0 T0 MI X B b Ln n : Nat} {xs : Nat → Int32} {M : xM} (hL : Ln ≤ 4096) (hn : 8 * n + 8 ≤ Ln) (S : LwS N0 T0 X B b Ln xs n M) : ∃ M2, LwS N0 T0 X B b Ln xs (n + 1) M2 ∧ xZ T0 MI 222 660 (lp b X B n) [] M = xZ T0 MI 222 905 (lp b X B n) [] M2 := by
  obtain ⟨a, M1, M2, r1, r2, ⟨-, cB, b1⟩, ls⟩ := B_letter (MI := MI) (by omega) S (xs (8 * n + 1)) (xs (8 * n + 2))
  obtain ⟨ow, q, L, D⟩ := S
  obtain ⟨cX, -, b0⟩ := LS_sc D
  refine ⟨M2, ls, ?_⟩
  unfold lp
  have s1 := sc_at (n := n) (j := 1) (x := Int32.ofInt 1) b0 hL (by omega) rfl
  have t1 := sc_at (n := n) (j := 1) (x := Int32.ofInt 1) b1 hL (by omega) rfl
  have s2 := sc_at (n := n) (j := 2) (x := Int32.ofInt 2) b0 hL (by omega) rfl
  have t2 := sc_at (n := n) (j := 2) (x := Int32.ofInt 2) b1 hL (by omega) rfl
  rw [bq_222_660]
  simp only [Option.bind_some, s1, s2, cX, cond_true, r1, xasI]
  rw [bq_222_674]
  simp only [Option.bind_some, t1, t2, cB, cond_true, r2, xasI]
  rw [bq_222_688, if_pos rfl]
theorem W_range {N0 T0 MI X B b Ln n : Nat} {xs : Nat → Int32} {M : xM} (hL : Ln ≤ 4096) (hn : 8 * n + 8 ≤ Ln) (S : LwS N0 T0 X B b Ln xs n M) : ∃ M2, LwS N0 T0 X B b Ln xs (n + 1) M2 ∧ xZ T0 MI 222 693 (lp b X B n) [] M = xZ T0 MI 222 905 (lp b X B n) [] M2 := by
  obtain ⟨a, M1, M2, r1, r2, ⟨-, cB, b1⟩, ls⟩ := B_range (MI := MI) (by omega) S (xs (8 * n + 1)) (xs (8 * n + 2))
  obtain ⟨ow, q, L, D⟩ := S
  obtain ⟨cX, -, b0⟩ := LS_sc D
  refine ⟨M2, ls, ?_⟩
  unfold lp
  have s1 := sc_at (n := n) (j := 1) (x := Int32.ofInt 1) b0 hL (by omega) rfl
  have t1 := sc_at (n := n) (j := 1) (x := Int32.ofInt 1) b1 hL (by omega) rfl
  have s2 := sc_at (n := n) (j := 2) (x := Int32.ofInt 2) b0 hL (by omega) rfl
  have t2 := sc_at (n := n) (j := 2) (x := Int32.ofInt 2) b1 hL (by omega) rfl
  rw [bq_222_693]
  simp only [Option.bind_some, s1, s2, cX, cond_true, r1, xasI]
  rw [bq_222_707]
  simp only [Option.bind_some, t1, t2, cB, cond_true, r2, xasI]
  rw [bq_222_721, if_pos rfl]
theorem W_at {N0 T0 MI X B b Ln n : Nat} {xs : Nat → Int32} {M : xM} (hL : Ln ≤ 4096) (hn : 8 * n + 8 ≤ Ln) (S : LwS N0 T0 X B b Ln xs n M) : ∃ M2, LwS N0 T0 X B b Ln xs (n + 1) M2 ∧ xZ T0 MI 222 726 (lp b X B n) [] M = xZ T0 MI 222 905 (lp b X B n) [] M2 := by
  obtain ⟨a, M1, M2, r1, r2, ⟨-, cB, b1⟩, ls⟩ := B_at (MI := MI) (by omega) S (xs (8 * n + 1)) (xs (8 * n + 2)) (xs (8 * n + 3))
  obtain ⟨ow, q, L, D⟩ := S
  obtain ⟨cX, -, b0⟩ := LS_sc D
  refine ⟨M2, ls, ?_⟩
  unfold lp
  have s1 := sc_at (n := n) (j := 1) (x := Int32.ofInt 1) b0 hL (by omega) rfl
  have t1 := sc_at (n := n) (j := 1) (x := Int32.ofInt 1) b1 hL (by omega) rfl
  have s2 := sc_at (n := n) (j := 2) (x := Int32.ofInt 2) b0 hL (by omega) rfl
  have t2 := sc_at (n := n) (j := 2) (x := Int32.ofInt 2) b1 hL (by omega) rfl
  have s3 := sc_at (n := n) (j := 3) (x := Int32.ofInt 3) b0 hL (by omega) rfl
  have t3 := sc_at (n := n) (j := 3) (x := Int32.ofInt 3) b1 hL (by omega) rfl
  rw [bq_222_726]
  simp only [Option.bind_some, s1, s2, s3, cX, cond_true, r1, xasI]
  rw [bq_222_745]
  simp only [Option.bind_some, t1, t2, t3, cB, cond_true, r2, xasI]
  rw [bq_222_764, if_pos rfl]
theorem W_row {N0 T0 MI X B b Ln n : Nat} {xs : Nat → Int32} {M : xM} (hL : Ln ≤ 4096) (hn : 8 * n + 8 ≤ Ln) (S : LwS N0 T0 X B b Ln xs n M) : ∃ M2, LwS N0 T0 X B b Ln xs (n + 1) M2 ∧ xZ T0 MI 222 769 (lp b X B n) [] M = xZ T0 MI 222 905 (lp b X B n) [] M2 := by
  obtain ⟨a, M1, M2, r1, r2, ⟨-, cB, b1⟩, ls⟩ := B_row (MI := MI) (by omega) S (xs (8 * n + 1)) (xs (8 * n + 2)) (xs (8 * n + 3))
  obtain ⟨ow, q, L, D⟩ := S
  obtain ⟨cX, -, b0⟩ := LS_sc D
  refine ⟨M2, ls, ?_⟩
  unfold lp
  have s1 := sc_at (n := n) (j := 1) (x := Int32.ofInt 1) b0 hL (by omega) rfl
  have t1 := sc_at (n := n) (j := 1) (x := Int32.ofInt 1) b1 hL (by omega) rfl
  have s2 := sc_at (n := n) (j := 2) (x := Int32.ofInt 2) b0 hL (by omega) rfl
  have t2 := sc_at (n := n) (j := 2) (x := Int32.ofInt 2) b1 hL (by omega) rfl
  have s3 := sc_at (n := n) (j := 3) (x := Int32.ofInt 3) b0 hL (by omega) rfl
  have t3 := sc_at (n := n) (j := 3) (x := Int32.ofInt 3) b1 hL (by omega) rfl
  rw [bq_222_769]
  simp only [Option.bind_some, s1, s2, s3, cX, cond_true, r1, xasL]
  rw [bq_222_788]
  simp only [Option.bind_some, t1, t2, t3, cB, cond_true, r2, xasL]
  rw [bq_222_807, if_pos (lg_0 _)]
theorem W_weight {N0 T0 MI X B b Ln n : Nat} {xs : Nat → Int32} {M : xM} (hL : Ln ≤ 4096) (hn : 8 * n + 8 ≤ Ln) (S : LwS N0 T0 X B b Ln xs n M) : ∃ M2, LwS N0 T0 X B b Ln xs (n + 1) M2 ∧ xZ T0 MI 222 813 (lp b X B n) [] M = xZ T0 MI 222 905 (lp b X B n) [] M2 := by
  obtain ⟨a, M1, M2, r1, r2, ⟨-, cB, b1⟩, ls⟩ := B_weight (MI := MI) (by omega) S (xs (8 * n + 1))
  obtain ⟨ow, q, L, D⟩ := S
  obtain ⟨cX, -, b0⟩ := LS_sc D
  refine ⟨M2, ls, ?_⟩
  unfold lp
  have s1 := sc_at (n := n) (j := 1) (x := Int32.ofInt 1) b0 hL (by omega) rfl
  have t1 := sc_at (n := n) (j := 1) (x := Int32.ofInt 1) b1 hL (by omega) rfl
  rw [bq_222_813]
  simp only [Option.bind_some, s1, cX, cond_true, r1, xasI]
  rw [bq_222_822]
  simp only [Option.bind_some, t1, cB, cond_true, r2, xasI]
  rw [bq_222_831, if_pos rfl]
theorem W_plan {N0 T0 MI X B b Ln n : Nat} {xs : Nat → Int32} {M : xM} (hL : Ln ≤ 4096) (hn : 8 * n + 8 ≤ Ln) (S : LwS N0 T0 X B b Ln xs n M) : ∃ M2, LwS N0 T0 X B b Ln xs (n + 1) M2 ∧ xZ T0 MI 222 836 (lp b X B n) [] M = xZ T0 MI 222 905 (lp b X B n) [] M2 := by
  obtain ⟨a, M1, M2, r1, r2, ⟨-, cB, b1⟩, ls⟩ := B_plan (MI := MI) (by omega) S 
  obtain ⟨ow, q, L, D⟩ := S
  obtain ⟨cX, -, b0⟩ := LS_sc D
  refine ⟨M2, ls, ?_⟩
  unfold lp
  rw [bq_222_836]
  simp only [Option.bind_some, cX, cond_true, r1, xasI]
  rw [bq_222_840]
  simp only [Option.bind_some, cB, cond_true, r2, xasI]
  rw [bq_222_844, if_pos rfl]
theorem W_order {N0 T0 MI X B b Ln n : Nat} {xs : Nat → Int32} {M : xM} (hL : Ln ≤ 4096) (hn : 8 * n + 8 ≤ Ln) (S : LwS N0 T0 X B b Ln xs n M) : ∃ M2, LwS N0 T0 X B b Ln xs (n + 1) M2 ∧ xZ T0 MI 222 849 (lp b X B n) [] M = xZ T0 MI 222 905 (lp b X B n) [] M2 := by
  obtain ⟨a, M1, M2, r1, r2, ⟨-, cB, b1⟩, ls⟩ := B_order (MI := MI) (by omega) S (xs (8 * n + 1)) (xs (8 * n + 2))
  obtain ⟨ow, q, L, D⟩ := S
  obtain ⟨cX, -, b0⟩ := LS_sc D
  refine ⟨M2, ls, ?_⟩
  unfold lp
  have s1 := sc_at (n := n) (j := 1) (x := Int32.ofInt 1) b0 hL (by omega) rfl
  have t1 := sc_at (n := n) (j := 1) (x := Int32.ofInt 1) b1 hL (by omega) rfl
  have s2 := sc_at (n := n) (j := 2) (x := Int32.ofInt 2) b0 hL (by omega) rfl
  have t2 := sc_at (n := n) (j := 2) (x := Int32.ofInt 2) b1 hL (by omega) rfl
  rw [bq_222_849]
  simp only [Option.bind_some, s1, s2, cX, cond_true, r1, xasI]
  rw [bq_222_863]
  simp only [Option.bind_some, t1, t2, cB, cond_true, r2, xasI]
  rw [bq_222_877, if_pos rfl]
theorem W_status {N0 T0 MI X B b Ln n : Nat} {xs : Nat → Int32} {M : xM} (hL : Ln ≤ 4096) (hn : 8 * n + 8 ≤ Ln) (S : LwS N0 T0 X B b Ln xs n M) : ∃ M2, LwS N0 T0 X B b Ln xs (n + 1) M2 ∧ xZ T0 MI 222 882 (lp b X B n) [] M = xZ T0 MI 222 905 (lp b X B n) [] M2 := by
  obtain ⟨a, M1, M2, r1, r2, ⟨-, cB, b1⟩, ls⟩ := B_status (MI := MI) (by omega) S (xs (8 * n + 1))
  obtain ⟨ow, q, L, D⟩ := S
  obtain ⟨cX, -, b0⟩ := LS_sc D
  refine ⟨M2, ls, ?_⟩
  unfold lp
  have s1 := sc_at (n := n) (j := 1) (x := Int32.ofInt 1) b0 hL (by omega) rfl
  have t1 := sc_at (n := n) (j := 1) (x := Int32.ofInt 1) b1 hL (by omega) rfl
  rw [bq_222_882]
  simp only [Option.bind_some, s1, cX, cond_true, r1, xasI]
  rw [bq_222_891]
  simp only [Option.bind_some, t1, cB, cond_true, r2, xasI]
  rw [bq_222_900, if_pos rfl]
