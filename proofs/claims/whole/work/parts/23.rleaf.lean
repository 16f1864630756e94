/-! THE REFERENCE'S METHODS, leaves -/
theorem xin_t {a n : Nat} (h : a < n) (hn : n < 2 ^ 31) : xin (nI a) n = true := by
  unfold xin
  rw [nI_clamp (by omega)]
  simp only [Bool.and_eq_true, Bool.not_eq_true', decide_eq_false_iff_not]
  exact ⟨nI_pos (by omega), Nat.ble_eq_true_of_le h⟩
theorem xbool1 : xbool (Int32.ofInt 1) = true := by decide
theorem xbool0 : xbool (Int32.ofInt 0) = true := by decide
/-- a truth value as an int -/
def bI (c : Prop) (d : Decidable c) : Int32 := if c then 1 else 0
theorem c_isIn (T0 MI : Nat) (x n : Int32) (M : xM) : xZ T0 MI 125 0 [some (vi x), some (vi n)] [] M = some (some (vi (if 0 ≤ x ∧ x < n then 1 else 0)), M) := by
  rw [bq_125_0]
  by_cases h1 : x < 0
  · rw [if_pos h1, bq_125_13, bq_125_14, xbool0, cond_true, if_neg (fun h => Int32.not_le.mpr h1 h.1)]
    rfl
  · rw [if_neg h1, bq_125_4]
    by_cases h2 : n ≤ x
    · rw [if_pos h2, bq_125_13, bq_125_14, xbool0, cond_true, if_neg (fun h => Int32.not_le.mpr h.2 h2)]
      rfl
    · rw [if_neg h2, bq_125_9, bq_125_14, xbool1, cond_true, if_pos ⟨Int32.not_lt.mp h1, Int32.not_le.mp h2⟩]
      rfl
theorem c_spot (T0 MI h r : Nat) (M : xM) : xZ T0 MI 128 0 [some (vi (nI h)), some (vi (nI r))] [] M = some (some (vi (nI (40 * h + r))), M) := by
  rw [bq_128_0, show Int32.ofInt 40 = nI 40 from rfl, pk_mul, nI_add]
/-- the first place from k on, of m, that holds the key -/
def rfnd (f : Nat → Int32) (key : Int32) : Nat → Nat → Option Nat
  | _, 0 => none
  | k, m + 1 => if f k = key then some k else rfnd f key (k + 1) m
def rfndI (o : Option Nat) (base : Nat) : Int32 := match o with
  | some j => nI (base + j)
  | none => Int32.ofInt (-1)
theorem c_rowAt_l {T0 MI B p n : Nat} {q : xrho} {key : Int32} {M : xM} (hp : p < 240) (hn : n ≤ 60) (hq : q.1 19 p = nI n) : ∀ m k, k + m = n → xZ T0 MI 131 2 [some (vr (some B)), some (vi (nI p)), some (vi key), some (vi (nI k))] [] (rput B q M) = some (some (vi (rfndI (rfnd (fun j => q.1 20 (60 * p + j)) key k m) (60 * p))), rput B q M) := by
  intro m
  induction m with
  | zero =>
    intro k hk
    rw [bq_131_2, rg_rowMany, Option.bind_some, Option.bind_some, ra_rowMany, xin_t hp (by decide), cond_true, Option.bind_some, nI_clamp (by omega), hq, if_pos (nI_le (by omega) (by omega)), bq_131_40]
    rfl
  | succ m ih =>
    intro k hk
    rw [bq_131_2, rg_rowMany, Option.bind_some, Option.bind_some, ra_rowMany, xin_t hp (by decide), cond_true, Option.bind_some, nI_clamp (by omega), hq, if_neg (nI_ge (by omega) (by omega)), bq_131_12, rg_rowKey, Option.bind_some, Option.bind_some, show Int32.ofInt 60 = nI 60 from rfl, pk_mul, nI_add, ra_rowKey, xin_t (by omega) (by decide), cond_true, Option.bind_some, nI_clamp (by omega)]
    by_cases h : q.1 20 (60 * p + k) = key
    · rw [if_pos h, bq_131_27, show Int32.ofInt 60 = nI 60 from rfl, pk_mul, nI_add]
      unfold rfnd
      rw [if_pos h]
      rfl
    · rw [if_neg h, bq_131_34, show Int32.ofInt 1 = nI 1 from rfl, nI_add, ih (k + 1) (by omega)]
      conv => rhs; unfold rfnd
      rw [if_neg h]
theorem c_rowAt {T0 MI B p n : Nat} {q : xrho} {key : Int32} {o3 : Option xV} {M : xM} (hp : p < 240) (hn : n ≤ 60) (hq : q.1 19 p = nI n) : xZ T0 MI 131 0 [some (vr (some B)), some (vi (nI p)), some (vi key), o3] [] (rput B q M) = some (some (vi (rfndI (rfnd (fun j => q.1 20 (60 * p + j)) key 0 n) (60 * p))), rput B q M) := by
  rw [bq_131_0, show Int32.ofInt 0 = nI 0 from rfl, c_rowAt_l hp hn hq n 0 (by omega)]
theorem k_0 : Int32.ofInt 0 = nI 0 := rfl
theorem k_1 : Int32.ofInt 1 = nI 1 := rfl
theorem k_60 : Int32.ofInt 60 = nI 60 := rfl
theorem k_m1 : Int32.ofInt (-1) = -1 := by decide
theorem nI_s1 (n : Nat) : nI (n + 1) - nI 1 = nI n := nI_pred n
/-- the places (j, n] of a row at b hold what lay one below -/
def insK {α : Type} (f : Nat → α) (b j n : Nat) : Nat → α := fun x => if b + j < x ∧ x ≤ b + n then f (x - 1) else f x
/-- where a key goes in a row of n: above it all are greater -/
def rpos (f : Nat → Int32) (key : Int32) : Nat → Nat
  | 0 => 0
  | n + 1 => if key < f n then rpos f key n else n + 1
theorem rpos_le (f : Nat → Int32) (key : Int32) : ∀ n, rpos f key n ≤ n
  | 0 => Nat.le_refl _
  | n + 1 => by
    unfold rpos
    split
    · exact Nat.le_succ_of_le (rpos_le f key n)
    · exact Nat.le_refl _
def lsh (q : xrho) (b j n : Nat) : xrho := (va_up q.1 20 (insK (q.1 20) b j n), va_up q.2 27 (insK (q.2 27) b j n))
theorem insK_n {α : Type} (f : Nat → α) (b n : Nat) : insK f b n n = f := by
  funext x
  unfold insK
  rw [if_neg (by omega)]
theorem va_up_id {α : Type} (f : Nat → α) (k : Nat) : va_up f k (f k) = f := by
  funext j
  unfold va_up
  split
  · rename_i h; rw [h]
  · rfl
theorem va_up_up {α : Type} (f : Nat → α) (k : Nat) (x y : α) : va_up (va_up f k x) k y = va_up f k y := by
  funext j
  unfold va_up
  split <;> rfl
theorem lsh_n (q : xrho) (b n : Nat) : lsh q b n n = q := by
  unfold lsh
  rw [insK_n, insK_n, va_up_id, va_up_id]
theorem insK_step {α : Type} (f : Nat → α) {b j n : Nat} (h : j < n) : (fun x => if x = b + (j + 1) then insK f b (j + 1) n (b + j) else insK f b (j + 1) n x) = insK f b j n := by
  funext x
  unfold insK
  by_cases hx : x = b + (j + 1)
  · subst hx
    rw [if_pos rfl, if_neg (by omega), if_pos (by omega)]
    congr 1
  · rw [if_neg hx]
    by_cases h1 : b + (j + 1) < x ∧ x ≤ b + n
    · rw [if_pos h1, if_pos (by omega)]
    · rw [if_neg h1, if_neg (by omega)]
theorem lsh_step {q : xrho} {b j n : Nat} (h : j < n) : rupL (rup (lsh q b (j + 1) n) 20 (b + (j + 1)) ((lsh q b (j + 1) n).1 20 (b + j))) 27 (b + (j + 1)) ((rup (lsh q b (j + 1) n) 20 (b + (j + 1)) ((lsh q b (j + 1) n).1 20 (b + j))).2 27 (b + j)) = lsh q b j n := by
  unfold rupL rup lsh
  dsimp only
  rw [va_up_self, va_up_self, va_up_up, va_up_up]
  congr 2
  · exact insK_step _ h
  · exact insK_step _ h
theorem lsh_at {q : xrho} {b j n : Nat} {x : Nat} (hx : x ≤ b + j) : (lsh q b j n).1 20 x = q.1 20 x := by
  unfold lsh
  dsimp only
  rw [va_up_self]
  unfold insK
  rw [if_neg (by omega)]
theorem lsh_19 {q : xrho} {b j n : Nat} : (lsh q b j n).1 19 = q.1 19 := by
  unfold lsh
  dsimp only
  rw [va_up_ne _ _ (by decide)]
def layq (q : xrho) (p n pos : Nat) (key : Int32) (v : Int64) : xrho := rup (rupL (rup (lsh q (60 * p) pos n) 20 (60 * p + pos) key) 27 (60 * p + pos) v) 19 p (nI (n + 1))
theorem c_lay_e {T0 MI B p n pos : Nat} {q : xrho} {key : Int32} {v : Int64} {o4 o5 : Option xV} {M : xM} (hp : p < 240) (hn : n < 60) (hpos : pos ≤ n) (hq : q.1 19 p = nI n) : xZ T0 MI 132 109 [some (vr (some B)), some (vi (nI p)), some (vi key), some (vl v), o4, o5, some (vi (nI (60 * p + pos)))] [] (rput B (lsh q (60 * p) pos n) M) = some (some (vi 1), rput B (layq q p n pos key v) M) := by
  rw [rq_132_109, xin_t (a := 60 * p + pos) (by omega) (by decide), xin_t hp (by decide), xbool1]
  simp only [cond_true]
  rw [nI_clamp (n := 60 * p + pos) (by omega), nI_clamp (n := p) (by omega)]
  have e : (rupL (rup (lsh q (60 * p) pos n) 20 (60 * p + pos) key) 27 (60 * p + pos) v).1 19 p = nI n := by
    unfold rupL rup
    dsimp only
    rw [va_up_ne _ _ (by decide), lsh_19, hq]
  rw [e, k_1, nI_add]
  rfl
theorem c_lay_l {T0 MI B p n : Nat} {q : xrho} {key : Int32} {v : Int64} {M : xM} (hp : p < 240) (hn : n < 60) (hq : q.1 19 p = nI n) : ∀ j, j ≤ n → ∀ o4 o5, xZ T0 MI 132 49 [some (vr (some B)), some (vi (nI p)), some (vi key), some (vl v), o4, o5, some (vi (nI (60 * p + j)))] [] (rput B (lsh q (60 * p) j n) M) = some (some (vi 1), rput B (layq q p n (rpos (fun x => q.1 20 (60 * p + x)) key j) key v) M) := by
  intro j
  induction j with
  | zero =>
    intro hj o4 o5
    rw [bq_132_49, k_60, pk_mul, if_pos (nI_le (by omega) (by omega))]
    exact c_lay_e (pos := 0) hp hn hj hq
  | succ j ih =>
    intro hj o4 o5
    rw [bq_132_49, k_60, pk_mul, if_neg (nI_ge (by omega) (by omega)), rq_132_58, k_1, ← Nat.add_assoc, nI_s1, xin_t (by omega) (by decide), cond_true, nI_clamp (n := 60 * p + j) (by omega), lsh_at (by omega)]
    by_cases h : key < q.1 20 (60 * p + j)
    · rw [if_neg (Int32.not_le.mpr h), rq_132_71, k_1, nI_s1, k_m1, pk_m1, xin_t (a := 60 * p + j) (by omega) (by decide), xin_t (a := 60 * p + j + 1) (by omega) (by decide)]
      simp only [cond_true]
      rw [nI_clamp (n := 60 * p + j) (by omega), nI_clamp (n := 60 * p + j + 1) (by omega)]
      have e := lsh_step (q := q) (b := 60 * p) (j := j) (n := n) (by omega)
      rw [← Nat.add_assoc] at e
      rw [e, ih (by omega)]
      conv => rhs; unfold rpos
      rw [if_pos h]
    · rw [if_pos (Int32.not_lt.mp h)]
      have e : rpos (fun x => q.1 20 (60 * p + x)) key (j + 1) = j + 1 := by
        unfold rpos
        rw [if_neg h]
      rw [e]
      exact c_lay_e (pos := j + 1) hp hn hj hq
/-- lay: what it does to the contents, and its answer -/
def glay (q : xrho) (p n : Nat) (key : Int32) (v : Int64) : Bool × xrho := match rfnd (fun j => q.1 20 (60 * p + j)) key 0 n with
  | some j => (true, rupL q 27 (60 * p + j) v)
  | none => if n = 60 then (false, q) else (true, layq q p n (rpos (fun x => q.1 20 (60 * p + x)) key n) key v)
def zI (b : Bool) : Int32 := bif b then 1 else 0
theorem rfnd_lt {f : Nat → Int32} {key : Int32} : ∀ {m k j : Nat}, rfnd f key k m = some j → k ≤ j ∧ j < k + m ∧ f j = key
  | 0, k, j, h => by cases h
  | m + 1, k, j, h => by
    unfold rfnd at h
    split at h
    · cases h
      exact ⟨Nat.le_refl _, by omega, by assumption⟩
    · have := rfnd_lt h
      exact ⟨by omega, by omega, this.2.2⟩
theorem c_lay {T0 MI B p n : Nat} {q : xrho} {key : Int32} {v : Int64} {o4 o5 o6 : Option xV} {M : xM} (hp : p < 240) (hn : n ≤ 60) (hq : q.1 19 p = nI n) : xZ T0 MI 132 0 [some (vr (some B)), some (vi (nI p)), some (vi key), some (vl v), o4, o5, o6] [] (rput B q M) = some (some (vi (zI (glay q p n key v).1)), rput B (glay q p n key v).2 M) := by
  rw [rq_132_0, c_rowAt hp hn hq]
  simp only [Option.bind_some, xasI]
  unfold glay
  cases hf : rfnd (fun j => q.1 20 (60 * p + j)) key 0 n with
  | some j =>
    have hj := rfnd_lt hf
    rw [show rfndI (some j) (60 * p) = nI (60 * p + j) from rfl, bq_132_6, if_neg (nI_pos (n := 60 * p + j) (by omega)), rq_132_13, xin_t (a := 60 * p + j) (by omega) (by decide), xbool1]
    simp only [cond_true]
    rw [nI_clamp (n := 60 * p + j) (by omega)]
    rfl
  | none =>
    rw [show rfndI none (60 * p) = Int32.ofInt (-1) from rfl, bq_132_6, if_pos (show Int32.ofInt (-1) < 0 by decide), rq_132_23, xin_t hp (by decide), cond_true, nI_clamp (n := p) (by omega), hq, k_60]
    by_cases h : n = 60
    · subst h
      rw [if_pos rfl, bq_132_34, xbool0]
      rfl
    · rw [if_neg (fun e => h ((nI_eq (by omega) (by omega)).mp e)), rq_132_36, xin_t hp (by decide), cond_true, nI_clamp (n := p) (by omega), hq, k_60, pk_mul, nI_add]
      have e := c_lay_l (T0 := T0) (MI := MI) (B := B) (key := key) (v := v) (M := M) hp (by omega) hq n (Nat.le_refl _)
      rw [lsh_n] at e
      rw [e]
      dsimp only
      rw [if_neg h]
      rfl
