/-! THE REFERENCE'S METHODS: keep, nothingKept, newLetter and those that send -/
def kpos (f : Nat → Int32) (count : Int32) : Nat → Nat
  | 0 => 0
  | n + 1 => if f n < count then kpos f count n else n + 1
theorem kpos_le (f : Nat → Int32) (count : Int32) : ∀ n, kpos f count n ≤ n
  | 0 => Nat.le_refl _
  | n + 1 => by
    unfold kpos
    split
    · exact Nat.le_succ_of_le (kpos_le f count n)
    · exact Nat.le_refl _
def ksh (q : xrho) (b j n : Nat) : xrho := (va_up (va_up q.1 35 (insK (q.1 35) b j n)) 36 (insK (q.1 36) b j n), va_up q.2 37 (insK (q.2 37) b j n))
theorem ksh_n (q : xrho) (b n : Nat) : ksh q b n n = q := by
  unfold ksh
  rw [insK_n, insK_n, insK_n, va_up_id, va_up_id, va_up_id]
theorem va_up2 {α : Type} (f : Nat → α) {a b : Nat} (h : a ≠ b) (x y z w : α) : va_up (va_up (va_up (va_up f a x) b y) a z) b w = va_up (va_up f a z) b w := by
  funext k
  unfold va_up
  by_cases hb : k = b
  · simp [hb]
  · by_cases ha : k = a
    · simp [ha]
    · simp [ha, hb]
theorem ksh_35 (q : xrho) (b j n : Nat) : (ksh q b j n).1 35 = insK (q.1 35) b j n := by
  unfold ksh
  dsimp only
  rw [va_up_ne _ _ (by decide), va_up_self]
theorem ksh_36 (q : xrho) (b j n : Nat) : (ksh q b j n).1 36 = insK (q.1 36) b j n := by
  unfold ksh
  dsimp only
  rw [va_up_self]
theorem ksh_37 (q : xrho) (b j n : Nat) : (ksh q b j n).2 37 = insK (q.2 37) b j n := by
  unfold ksh
  dsimp only
  rw [va_up_self]
theorem ksh_step {q : xrho} {b j n : Nat} (h : j < n) {x : Int32} {y : Int64} {z : Int32} (hx : x = insK (q.1 35) b (j + 1) n (b + j)) (hy : y = insK (q.2 37) b (j + 1) n (b + j)) (hz : z = insK (q.1 36) b (j + 1) n (b + j)) : rup (rupL (rup (ksh q b (j + 1) n) 35 (b + (j + 1)) x) 37 (b + (j + 1)) y) 36 (b + (j + 1)) z = ksh q b j n := by
  subst hx hy hz
  unfold rup rupL
  dsimp only
  rw [ksh_35, ksh_37, va_up_ne _ _ (show (36 : Nat) ≠ 35 by decide), ksh_36]
  unfold ksh
  dsimp only
  rw [va_up2 _ (by decide), va_up_up]
  congr 2
  · congr 1
    exact insK_step _ h
  · exact insK_step _ h
  · exact insK_step _ h
theorem rup_2 (q : xrho) (k i : Nat) (x : Int32) : (rup q k i x).2 = q.2 := rfl
theorem rupL_1 (q : xrho) (k i : Nat) (x : Int64) : (rupL q k i x).1 = q.1 := rfl
theorem rup_ne (q : xrho) (k i : Nat) (x : Int32) {k' : Nat} (h : k' ≠ k) : (rup q k i x).1 k' = q.1 k' := va_up_ne _ _ h
theorem rupL_ne (q : xrho) (k i : Nat) (x : Int64) {k' : Nat} (h : k' ≠ k) : (rupL q k i x).2 k' = q.2 k' := va_up_ne _ _ h
theorem k_m9 : Int32.ofInt (-9) = Int32.ofInt (-9) := rfl
def keepq (q : xrho) (c s pos : Nat) (count : Int32) (v : Int64) (sign : Int32) : xrho := rup (rupL (rup (ksh q (4 * c) pos s) 35 (4 * c + pos) count) 37 (4 * c + pos) v) 36 (4 * c + pos) sign
theorem c_keep_l {T0 MI B c s : Nat} {q : xrho} {count : Int32} {v : Int64} {sign : Int32} {o1 o2 o5 : Option xV} {M : xM} (hc : c < 1440) (hs : s < 4) : ∀ j, j ≤ s → xZ T0 MI 138 67 [some (vr (some B)), o1, o2, some (vi count), some (vl v), o5, some (vi sign), some (vi (nI c)), some (vi (nI (4 * c + j)))] [] (rput B (ksh q (4 * c) j s) M) = some (none, rput B (keepq q c s (kpos (fun x => q.1 35 (4 * c + x)) count j) count v sign) M) := by
  intro j
  have fin : ∀ pos, pos ≤ s → ∀ o7, xZ T0 MI 138 143 [some (vr (some B)), o1, o2, some (vi count), some (vl v), o5, some (vi sign), o7, some (vi (nI (4 * c + pos)))] [] (rput B (ksh q (4 * c) pos s) M) = some (none, rput B (keepq q c s pos count v sign) M) := by
    intro pos hpos o7
    rw [rq_138_143, xin_t (a := 4 * c + pos) (by omega) (by decide)]
    simp only [cond_true]
    rw [nI_clamp (n := 4 * c + pos) (by omega)]
    rfl
  induction j with
  | zero =>
    intro hj
    rw [bq_138_67, k_4, pk_mul, if_pos (nI_le (by omega) (by omega))]
    exact fin 0 hj _
  | succ j ih =>
    intro hj
    have e35 : (ksh q (4 * c) (j + 1) s).1 35 (4 * c + j) = q.1 35 (4 * c + j) := by
      rw [ksh_35]
      unfold insK
      rw [if_neg (by omega)]
    rw [bq_138_67, k_4, pk_mul, if_neg (nI_ge (by omega) (by omega)), rq_138_76, k_1, ← Nat.add_assoc, nI_s1, xin_t (by omega) (by decide), cond_true, nI_clamp (n := 4 * c + j) (by omega), e35]
    by_cases h : q.1 35 (4 * c + j) < count
    · rw [if_neg (Int32.not_le.mpr h), rq_138_89, k_1, nI_s1, k_m1, pk_m1, xin_t (a := 4 * c + j) (by omega) (by decide), xin_t (a := 4 * c + j + 1) (by omega) (by decide)]
      simp only [cond_true]
      rw [nI_clamp (n := 4 * c + j) (by omega), nI_clamp (n := 4 * c + j + 1) (by omega)]
      have e := ksh_step (q := q) (b := 4 * c) (j := j) (n := s) (by omega) rfl rfl rfl
      rw [← Nat.add_assoc] at e
      rw [rupL_1, rup_2, rup_ne _ _ _ _ (show (36 : Nat) ≠ 35 by decide), ksh_35, ksh_36, ksh_37, e, ih (by omega)]
      conv => rhs; unfold kpos
      rw [if_pos h]
    · rw [if_pos (Int32.not_lt.mp h)]
      have e : kpos (fun x => q.1 35 (4 * c + x)) count (j + 1) = j + 1 := by
        unfold kpos
        rw [if_neg h]
      rw [e]
      exact fin (j + 1) hj _
/-- keep: what it does to the contents; c = 6 p + caller, n kept before -/
def gkeep (q : xrho) (c n : Nat) (count : Int32) (v : Int64) (sign : Int32) : xrho :=
  match rfnd (fun j => q.1 35 (4 * c + j)) count 0 n with
  | some _ => q
  | none => if n = 4 ∧ count < q.1 35 (4 * c + 3) then q else if n = 4 then keepq q c 3 (kpos (fun x => q.1 35 (4 * c + x)) count 3) count v sign else keepq (rup q 34 c (nI (n + 1))) c n (kpos (fun x => q.1 35 (4 * c + x)) count n) count v sign
theorem c_keep {T0 MI B p cc n : Nat} {q : xrho} {count : Int32} {v : Int64} {sign : Int32} {o5 o7 o8 : Option xV} {M : xM} (hp : p < 240) (hc : cc < 6) (hn : n ≤ 4) (hq : q.1 34 (6 * p + cc) = nI n) : xZ T0 MI 138 0 [some (vr (some B)), some (vi (nI p)), some (vi (nI cc)), some (vi count), some (vl v), o5, some (vi sign), o7, o8] [] (rput B q M) = some (none, rput B (gkeep q (6 * p + cc) n count v sign) M) := by
  rw [rq_138_0, c_keptAt hp hc hn hq]
  simp only [Option.bind_some, xasI]
  unfold gkeep
  cases hf : rfnd (fun j => q.1 35 (4 * (6 * p + cc) + j)) count 0 n with
  | some j =>
    have hj := rfnd_lt hf
    rw [show rfndI (some j) (4 * (6 * p + cc)) = nI (4 * (6 * p + cc) + j) from rfl, bq_138_15, if_pos (nI_pos' (by omega)), bq_138_28]
  | none =>
    rw [show rfndI none (4 * (6 * p + cc)) = Int32.ofInt (-1) from rfl, bq_138_15, if_neg (show ¬ 0 ≤ Int32.ofInt (-1) by decide), rq_138_18, c_isTooOld hp hc hn hq]
    simp only [Option.bind_some, xasI]
    by_cases h1 : n = 4 ∧ count < q.1 35 (4 * (6 * p + cc) + 3)
    · rw [if_pos h1, if_pos h1, bq_138_25, if_neg (by decide), bq_138_28]
    · rw [if_neg h1, if_neg h1, bq_138_25, if_pos rfl, k_6, pk_mul, nI_add, rq_138_29, xin_t (a := 6 * p + cc) (by omega) (by decide), cond_true, nI_clamp (n := 6 * p + cc) (by omega), hq, k_4]
      by_cases h2 : n = 4
      · subst h2
        rw [if_pos (nI_le (by omega) (by omega)), if_pos rfl, rq_138_51, xin_t (a := 6 * p + cc) (by omega) (by decide), cond_true, nI_clamp (n := 6 * p + cc) (by omega), hq, k_4, pk_mul, nI_add, k_1, show nI (4 * (6 * p + cc) + 4) - nI 1 = nI (4 * (6 * p + cc) + 3) from nI_s1 _]
        have e := fun o1 o2 o5 => c_keep_l (o1 := o1) (o2 := o2) (o5 := o5) (T0 := T0) (MI := MI) (B := B) (M := M) (q := q) (c := 6 * p + cc) (s := 3) (count := count) (v := v) (sign := sign) (by omega) (by decide) 3 (Nat.le_refl _)
        simp only [ksh_n] at e
        exact e _ _ _
      · rw [if_neg (nI_ge (by omega) (by omega)), if_neg h2, rq_138_40, xin_t (a := 6 * p + cc) (by omega) (by decide)]
        simp only [cond_true]
        rw [nI_clamp (n := 6 * p + cc) (by omega), hq, k_1, nI_add, rq_138_51, xin_t (a := 6 * p + cc) (by omega) (by decide), cond_true, nI_clamp (n := 6 * p + cc) (by omega), rup_at, k_4, pk_mul, nI_add, k_1, show nI (4 * (6 * p + cc) + (n + 1)) - nI 1 = nI (4 * (6 * p + cc) + n) from nI_s1 _]
        have e := fun o1 o2 o5 => c_keep_l (o1 := o1) (o2 := o2) (o5 := o5) (T0 := T0) (MI := MI) (B := B) (M := M) (q := rup q 34 (6 * p + cc) (nI (n + 1))) (c := 6 * p + cc) (s := n) (count := count) (v := v) (sign := sign) (by omega) (by omega) n (Nat.le_refl _)
        simp only [ksh_n] at e
        exact e _ _ _
/-! a new letter -/
def gnew (q : xrho) (l : Nat) (kind to fr r e : Int32) : xrho := rup (rup (rup (rup (rup (rup (rup (rup (rup (rup q 60 l kind) 61 l to) 62 l fr) 63 l r) 64 l e) 66 l (Int32.ofInt (-9))) 67 l (Int32.ofInt (-9))) 68 l (Int32.ofInt (-9))) 69 l (Int32.ofInt (-9))) 82 0 (nI (l + 1))
theorem c_newLetter {T0 MI B l : Nat} {q : xrho} {kind to fr r e : Int32} {o6 : Option xV} {M : xM} (hl : l < 1200) (hq : q.1 82 0 = nI l) : xZ T0 MI 141 0 [some (vr (some B)), some (vi kind), some (vi to), some (vi fr), some (vi r), some (vi e), o6] [] (rput B q M) = some (some (vi (nI l)), rput B (gnew q l kind to fr r e) M) := by
  rw [rq_141_0, hq, xin_t hl (by decide)]
  simp only [cond_true]
  rw [nI_clamp (by omega)]
  simp only [rup_ne _ _ _ _ (show (82 : Nat) ≠ 60 by decide), rup_ne _ _ _ _ (show (82 : Nat) ≠ 61 by decide), rup_ne _ _ _ _ (show (82 : Nat) ≠ 62 by decide), rup_ne _ _ _ _ (show (82 : Nat) ≠ 63 by decide), rup_ne _ _ _ _ (show (82 : Nat) ≠ 64 by decide), rup_ne _ _ _ _ (show (82 : Nat) ≠ 66 by decide), rup_ne _ _ _ _ (show (82 : Nat) ≠ 67 by decide), rup_ne _ _ _ _ (show (82 : Nat) ≠ 68 by decide), rup_ne _ _ _ _ (show (82 : Nat) ≠ 69 by decide)]
  rw [hq, k_1, nI_add]
  rfl
