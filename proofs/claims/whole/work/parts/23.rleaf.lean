/-! THE REFERENCE'S METHODS, leaves -/
theorem xin_t {a n : Nat} (h : a < n) (hn : n < 2 ^ 31) : xin (nI a) n = true := by
  unfold xin
  rw [nI_clamp (by omega)]
  simp only [Bool.and_eq_true, Bool.not_eq_true', decide_eq_false_iff_not]
  exact ⟨nI_pos (by omega), Nat.ble_eq_true_of_le h⟩
theorem xbool1 : xbool (Int32.ofInt 1) = true := by decide
theorem xbool0 : xbool (Int32.ofInt 0) = true := by decide
/-- a truth value as an int -/
def bI (c : Prop) (d : Decidable c) : Int32 := if c then 1 else 0
theorem c_isIn (T0 MI : Nat) (x n : Int32) (M : xM) : xZ T0 MI 125 0 [some (vi x), some (vi n)] [] M = some (some (vi (if 0 ≤ x ∧ x < n then 1 else 0)), M) := by
  rw [bq_125_0]
  by_cases h1 : x < 0
  · rw [if_pos h1, bq_125_13, bq_125_14, xbool0, cond_true, if_neg (fun h => Int32.not_le.mpr h1 h.1)]
    rfl
  · rw [if_neg h1, bq_125_4]
    by_cases h2 : n ≤ x
    · rw [if_pos h2, bq_125_13, bq_125_14, xbool0, cond_true, if_neg (fun h => Int32.not_le.mpr h.2 h2)]
      rfl
    · rw [if_neg h2, bq_125_9, bq_125_14, xbool1, cond_true, if_pos ⟨Int32.not_lt.mp h1, Int32.not_le.mp h2⟩]
      rfl
theorem c_spot (T0 MI h r : Nat) (M : xM) : xZ T0 MI 128 0 [some (vi (nI h)), some (vi (nI r))] [] M = some (some (vi (nI (40 * h + r))), M) := by
  rw [bq_128_0, show Int32.ofInt 40 = nI 40 from rfl, pk_mul, nI_add]
/-- the first place from k on, of m, that holds the key -/
def rfnd (f : Nat → Int32) (key : Int32) : Nat → Nat → Option Nat
  | _, 0 => none
  | k, m + 1 => if f k = key then some k else rfnd f key (k + 1) m
def rfndI (o : Option Nat) (base : Nat) : Int32 := match o with
  | some j => nI (base + j)
  | none => Int32.ofInt (-1)
theorem c_rowAt_l {T0 MI B p n : Nat} {q : xrho} {key : Int32} {M : xM} (hp : p < 240) (hn : n ≤ 60) (hq : q.1 19 p = nI n) : ∀ m k, k + m = n → xZ T0 MI 131 2 [some (vr (some B)), some (vi (nI p)), some (vi key), some (vi (nI k))] [] (rput B q M) = some (some (vi (rfndI (rfnd (fun j => q.1 20 (60 * p + j)) key k m) (60 * p))), rput B q M) := by
  intro m
  induction m with
  | zero =>
    intro k hk
    rw [bq_131_2, rg_rowMany, Option.bind_some, Option.bind_some, ra_rowMany, xin_t hp (by decide), cond_true, Option.bind_some, nI_clamp (by omega), hq, if_pos (nI_le (by omega) (by omega)), bq_131_40]
    rfl
  | succ m ih =>
    intro k hk
    rw [bq_131_2, rg_rowMany, Option.bind_some, Option.bind_some, ra_rowMany, xin_t hp (by decide), cond_true, Option.bind_some, nI_clamp (by omega), hq, if_neg (nI_ge (by omega) (by omega)), bq_131_12, rg_rowKey, Option.bind_some, Option.bind_some, show Int32.ofInt 60 = nI 60 from rfl, pk_mul, nI_add, ra_rowKey, xin_t (by omega) (by decide), cond_true, Option.bind_some, nI_clamp (by omega)]
    by_cases h : q.1 20 (60 * p + k) = key
    · rw [if_pos h, bq_131_27, show Int32.ofInt 60 = nI 60 from rfl, pk_mul, nI_add]
      unfold rfnd
      rw [if_pos h]
      rfl
    · rw [if_neg h, bq_131_34, show Int32.ofInt 1 = nI 1 from rfl, nI_add, ih (k + 1) (by omega)]
      conv => rhs; unfold rfnd
      rw [if_neg h]
theorem c_rowAt {T0 MI B p n : Nat} {q : xrho} {key : Int32} {o3 : Option xV} {M : xM} (hp : p < 240) (hn : n ≤ 60) (hq : q.1 19 p = nI n) : xZ T0 MI 131 0 [some (vr (some B)), some (vi (nI p)), some (vi key), o3] [] (rput B q M) = some (some (vi (rfndI (rfnd (fun j => q.1 20 (60 * p + j)) key 0 n) (60 * p))), rput B q M) := by
  rw [bq_131_0, show Int32.ofInt 0 = nI 0 from rfl, c_rowAt_l hp hn hq n 0 (by omega)]
