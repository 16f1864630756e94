/-! the reference's constructor: its loops -/
def up1 (k : Nat) (x : Int32) : Nat → Nat → xrho → xrho
  | _, 0, q => q
  | i, m + 1, q => up1 k x (i + 1) m (rup q k i x)
theorem up1_o (k : Nat) (x : Int32) {f : Nat} (hf : f ≠ k) : ∀ m i q, (up1 k x i m q).1 f = q.1 f
  | 0, _, _ => rfl
  | m + 1, i, q => by
    unfold up1
    rw [up1_o k x hf m, rup_ne _ _ _ _ hf]
theorem up1_2 (k : Nat) (x : Int32) : ∀ m i q, (up1 k x i m q).2 = q.2
  | 0, _, _ => rfl
  | m + 1, i, q => by
    unfold up1
    rw [up1_2 k x m]
    rfl
theorem up1_at (k : Nat) (x : Int32) : ∀ m i q j, (up1 k x i m q).1 k j = if i ≤ j ∧ j < i + m then x else q.1 k j
  | 0, i, q, j => by
    rw [if_neg (by omega)]
    rfl
  | m + 1, i, q, j => by
    unfold up1
    rw [up1_at k x m, rup_i]
    by_cases c : j = i
    · rw [if_neg (by omega), if_pos c, if_pos (by omega)]
    · rw [if_neg c]
      by_cases c2 : i + 1 ≤ j ∧ j < i + 1 + m
      · rw [if_pos c2, if_pos (by omega)]
      · rw [if_neg c2, if_neg (by omega)]
theorem c_new1 {T0 MI B : Nat} {M : xM} : ∀ (m i : Nat) (q : xrho), i + m = 6 → xZ T0 MI 123 726 [some (vr (some B)), some (vi (nI i))] [] (rput B q M) = xZ T0 MI 123 747 [some (vr (some B)), some (vi (Int32.ofInt 0))] [] (rput B (up1 0 (Int32.ofInt 1) i m q) M)
  | 0, i, q, h => by
    rw [bq_123_726, k_6, if_pos (by rw [nI_leI (by decide) (by omega)]; omega), bq_123_745]
    rfl
  | m + 1, i, q, h => by
    rw [bq_123_726, k_6, if_neg (by rw [nI_leI (by decide) (by omega)]; omega), bq_123_732, rg_up, Option.bind_some, Option.bind_some, rs_up, xin_t (by omega) (by decide), show xbool (Int32.ofInt 1) = true from rfl, Bool.true_and, cond_true, Option.bind_some, nI_clamp (by omega), k_1, nI_add]
    exact c_new1 m (i + 1) _ (by omega)
theorem c_new2 {T0 MI B : Nat} {M : xM} : ∀ (m i : Nat) (q : xrho), i + m = 160 → xZ T0 MI 123 747 [some (vr (some B)), some (vi (nI i))] [] (rput B q M) = xZ T0 MI 123 767 [some (vr (some B)), some (vi (nI 160))] [] (rput B (up1 9 (Int32.ofInt (-1)) i m q) M)
  | 0, i, q, h => by
    rw [bq_123_747, show Int32.ofInt 160 = nI 160 from rfl, if_pos (by rw [nI_leI (by decide) (by omega)]; omega)]
    rw [show i = 160 by omega]
    rfl
  | m + 1, i, q, h => by
    rw [bq_123_747, show Int32.ofInt 160 = nI 160 from rfl, if_neg (by rw [nI_leI (by decide) (by omega)]; omega), bq_123_754, rg_owed, Option.bind_some, Option.bind_some, rs_owed, xin_t (by omega) (by decide), cond_true, Option.bind_some, nI_clamp (by omega), k_1, nI_add]
    exact c_new2 m (i + 1) _ (by omega)
def q01 : xrho := up1 9 (Int32.ofInt (-1)) 0 160 (up1 0 (Int32.ofInt 1) 0 6 q00)
def qS : xrho := rup (rup (rup (rup (gbook q01 0 (Int32.ofInt 0) (Int32.ofInt 10000) (Int32.ofInt 1) (Int32.ofInt 0)) 12 0 (Int32.ofInt 1)) 15 0 (Int32.ofInt 1)) 17 0 (Int32.ofInt 10000)) 18 0 (Int32.ofInt 1)
theorem c_newR {T0 MI : Nat} {M : xM} {o1 : Option xV} : xZ T0 MI 123 0 [some (vr (some M.1)), o1] [] (xnewO M 12) = some (none, rput M.1 qS (M.1 + 83, M.2.1 + 91 + szs 82, M.2.2)) := by
  rw [c_new0, k_0, c_new1 6 0 _ (by decide), k_0, c_new2 160 0 _ (by decide), bq_123_767, r_cls, cond_true, rq_126_0]
  have x0 : xin (Int32.ofInt 0) 40 = true := by decide
  have y0 : xin (Int32.ofInt 0) 240 = true := by decide
  have z0 : (Int32.ofInt 0).toNatClampNeg = 0 := by decide
  rw [x0, z0]
  show xZ T0 MI 123 778 [some (vr (some M.1)), some (vi (nI 160))] [] (rput M.1 (gbook q01 0 (Int32.ofInt 0) (Int32.ofInt 10000) (Int32.ofInt 1) (Int32.ofInt 0)) (M.1 + 83, M.2.1 + 91 + szs 82, M.2.2)) = _
  rw [bq_123_778, rp_ranges, Option.bind_some, rg_state, Option.bind_some, Option.bind_some, rs_state, y0, z0, cond_true, Option.bind_some, rg_high, Option.bind_some, Option.bind_some, rs_high, y0, z0, cond_true, Option.bind_some, rg_epoch, Option.bind_some, Option.bind_some, rs_epoch, y0, z0, cond_true, Option.bind_some]
  rfl
theorem qS_0 (i : Nat) : qS.1 0 i = if i < 6 then 1 else 0 := by
  unfold qS gbook
  simp (disch := omega) only [rup_f]
  unfold q01
  rw [up1_o 9 _ (by decide), up1_at]
  by_cases c : i < 6
  · rw [if_pos (by omega), if_pos c]; rfl
  · rw [if_neg (by omega), if_neg c]; rfl
theorem qS_9 (i : Nat) : qS.1 9 i = if i < 160 then Int32.ofInt (-1) else 0 := by
  unfold qS gbook
  simp (disch := omega) only [rup_f]
  unfold q01
  rw [up1_at]
  by_cases c : i < 160
  · rw [if_pos (by omega), if_pos c]
  · rw [if_neg (by omega), if_neg c, up1_o 0 _ (by decide)]; rfl
theorem q01_z {k : Nat} (h0 : k ≠ 0) (h9 : k ≠ 9) (i : Nat) : q01.1 k i = 0 := by
  unfold q01
  rw [up1_o 9 _ h9, up1_o 0 _ h0]
  rfl
theorem qS_z {k : Nat} (i : Nat) (h : k ≠ 0 ∧ k ≠ 9 ∧ k ≠ 2 ∧ k ≠ 4 ∧ k ≠ 5 ∧ k ≠ 7 ∧ k ≠ 12 ∧ k ≠ 15 ∧ k ≠ 17 ∧ k ≠ 18 ∨ k ≠ 0 ∧ k ≠ 9 ∧ i ≠ 0) : qS.1 k i = 0 := by
  rcases h with ⟨h1, h2, h3, h4, h5, h6, h7, h8, h9, h10⟩ | ⟨h1, h2, h3⟩
  · by_cases c : k = 3 ∧ i = 0
    · obtain ⟨c1, c2⟩ := c
      subst c1
      subst c2
      unfold qS gbook
      simp (disch := omega) only [rup_f, rup_at]
      rfl
    · by_cases c' : k = 6 ∧ i = 0
      · obtain ⟨c1, c2⟩ := c'
        subst c1
        subst c2
        unfold qS gbook
        simp (disch := omega) only [rup_f, rup_at]
        rfl
      · unfold qS gbook
        simp only [rup_r]
        rw [if_neg (by omega), if_neg (by omega), if_neg (by omega), if_neg (by omega), if_neg (by omega), if_neg c', if_neg (by omega), if_neg (by omega), if_neg c, if_neg (by omega)]
        exact q01_z h1 h2 i
  · unfold qS gbook
    rw [rup_y _ _ _ _ h3, rup_y _ _ _ _ h3, rup_y _ _ _ _ h3, rup_y _ _ _ _ h3, rup_y _ _ _ _ h3, rup_y _ _ _ _ h3, rup_y _ _ _ _ h3, rup_y _ _ _ _ h3, rup_y _ _ _ _ h3, rup_y _ _ _ _ h3]
    exact q01_z h1 h2 i
theorem qS_2 : qS.2 = q00.2 := by
  unfold qS gbook
  simp only [rup_2]
  unfold q01
  rw [up1_2, up1_2]
theorem qS_at : qS.1 2 0 = 1 ∧ qS.1 3 0 = 0 ∧ qS.1 4 0 = nI 10000 ∧ qS.1 5 0 = 1 ∧ qS.1 6 0 = 0 ∧ qS.1 7 0 = Int32.ofInt (-1) ∧ qS.1 12 0 = nI 1 ∧ qS.1 15 0 = nI 1 ∧ qS.1 16 0 = 0 ∧ qS.1 17 0 = nI 10000 ∧ qS.1 18 0 = 1 := by
  refine ⟨?_, ?_, ?_, ?_, ?_, ?_, ?_, ?_, qS_z 0 (Or.inl (by decide)), ?_, ?_⟩ <;> unfold qS gbook <;> simp (disch := omega) only [rup_f, rup_at] <;> rfl
