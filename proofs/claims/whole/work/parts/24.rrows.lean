/-! THE REFERENCE'S METHODS: strike; the rows as a list -/
def delK {α : Type} (f : Nat → α) (b j i : Nat) : Nat → α := fun x => if b + j ≤ x ∧ x < b + i then f (x + 1) else f x
def dsh (q : xrho) (b j i : Nat) : xrho := (va_up q.1 20 (delK (q.1 20) b j i), va_up q.2 27 (delK (q.2 27) b j i))
theorem delK_0 {α : Type} (f : Nat → α) (b j : Nat) : delK f b j j = f := by
  funext x
  unfold delK
  rw [if_neg (by omega)]
theorem dsh_0 (q : xrho) (b j : Nat) : dsh q b j j = q := by
  unfold dsh
  rw [delK_0, delK_0, va_up_id, va_up_id]
theorem delK_step {α : Type} (f : Nat → α) {b j i : Nat} (h : j ≤ i) : (fun x => if x = b + i then delK f b j i (b + (i + 1)) else delK f b j i x) = delK f b j (i + 1) := by
  funext x
  unfold delK
  by_cases hx : x = b + i
  · subst hx
    rw [if_pos rfl, if_neg (by omega), if_pos (by omega)]
    rfl
  · rw [if_neg hx]
    by_cases h1 : b + j ≤ x ∧ x < b + i
    · rw [if_pos h1, if_pos (by omega)]
    · rw [if_neg h1, if_neg (by omega)]
theorem dsh_step {q : xrho} {b j i : Nat} (h : j ≤ i) : rupL (rup (dsh q b j i) 20 (b + i) ((dsh q b j i).1 20 (b + (i + 1)))) 27 (b + i) ((rup (dsh q b j i) 20 (b + i) ((dsh q b j i).1 20 (b + (i + 1)))).2 27 (b + (i + 1))) = dsh q b j (i + 1) := by
  unfold rupL rup dsh
  dsimp only
  rw [va_up_self, va_up_self, va_up_up, va_up_up]
  congr 2
  · exact delK_step _ h
  · exact delK_step _ h
theorem dsh_19 {q : xrho} {b j i : Nat} : (dsh q b j i).1 19 = q.1 19 := by
  unfold dsh
  dsimp only
  rw [va_up_ne _ _ (by decide)]
theorem c_strike_l {T0 MI B p n j : Nat} {q : xrho} {M : xM} (hp : p < 240) (hn : n < 60) (hq : q.1 19 p = nI n) : ∀ m i, j ≤ i → i + m = n → ∀ o2, xZ T0 MI 133 22 [some (vr (some B)), some (vi (nI p)), o2, some (vi (nI (60 * p + i)))] [] (rput B (dsh q (60 * p) j i) M) = some (none, rput B (dsh q (60 * p) j n) M) := by
  intro m
  induction m with
  | zero =>
    intro i hji hi o2
    rw [rq_133_22, xin_t hp (by decide), cond_true, nI_clamp (n := p) (by omega), dsh_19, hq, k_60, pk_mul, nI_add, if_pos (nI_le (by omega) (by omega)), bq_133_71, show i = n by omega]
  | succ m ih =>
    intro i hji hi o2
    rw [rq_133_22, xin_t hp (by decide), cond_true, nI_clamp (n := p) (by omega), dsh_19, hq, k_60, pk_mul, nI_add, if_neg (nI_ge (by omega) (by omega)), rq_133_37, k_1, nI_add, xin_t (a := 60 * p + i + 1) (by omega) (by decide), xin_t (a := 60 * p + i) (by omega) (by decide)]
    simp only [cond_true]
    rw [nI_clamp (n := 60 * p + i) (by omega), nI_clamp (n := 60 * p + i + 1) (by omega), Nat.add_assoc (60 * p) i 1, dsh_step hji]
    exact ih (i + 1) (by omega) (by omega) _
/-- strike: what it does to the contents -/
def gstrike (q : xrho) (p n : Nat) (key : Int32) : xrho := match rfnd (fun j => q.1 20 (60 * p + j)) key 0 n with
  | some j => dsh (rup q 19 p (nI (n - 1))) (60 * p) j (n - 1)
  | none => q
theorem rup_at (q : xrho) (k i : Nat) (x : Int32) : (rup q k i x).1 k i = x := by
  unfold rup
  dsimp only
  rw [va_up_self]
  unfold upd
  rw [if_pos rfl]
theorem c_strike {T0 MI B p n : Nat} {q : xrho} {key : Int32} {o3 : Option xV} {M : xM} (hp : p < 240) (hn : n ≤ 60) (hq : q.1 19 p = nI n) : xZ T0 MI 133 0 [some (vr (some B)), some (vi (nI p)), some (vi key), o3] [] (rput B q M) = some (none, rput B (gstrike q p n key) M) := by
  rw [rq_133_0, c_rowAt hp hn hq]
  simp only [Option.bind_some, xasI]
  unfold gstrike
  cases hf : rfnd (fun j => q.1 20 (60 * p + j)) key 0 n with
  | some j =>
    have hj := rfnd_lt hf
    rw [show rfndI (some j) (60 * p) = nI (60 * p + j) from rfl, bq_133_6, if_pos (nI_pos' (n := 60 * p + j) (by omega)), rq_133_12, xin_t hp (by decide)]
    simp only [cond_true]
    rw [nI_clamp (n := p) (by omega), hq, k_1, show nI n - nI 1 = nI (n - 1) from pk_sub (by omega)]
    have e := c_strike_l (T0 := T0) (MI := MI) (B := B) (M := M) (q := rup q 19 p (nI (n - 1))) (j := j) hp (by omega) (rup_at _ _ _ _) (n - 1 - j) j (Nat.le_refl _) (by omega)
    rw [dsh_0] at e
    exact e _
  | none =>
    rw [show rfndI none (60 * p) = Int32.ofInt (-1) from rfl, bq_133_6, if_neg (show ¬ 0 ≤ Int32.ofInt (-1) by decide), bq_133_11]
/-! the rows of a place as a list -/
def rowsN (q : xrho) (p : Nat) : Nat := (q.1 19 p).toNatClampNeg
def rowsOf (q : xrho) (p : Nat) : List (Int32 × Int64) := (List.range (rowsN q p)).map (fun j => (q.1 20 (60 * p + j), q.2 27 (60 * p + j)))
def layL (L : List (Int32 × Int64)) (key : Int32) (v : Int64) : Bool × List (Int32 × Int64) :=
  match rfnd (fun j => (L.getD j (0, 0)).1) key 0 L.length with
  | some j => (true, L.set j (key, v))
  | none => if L.length = 60 then (false, L) else (true, L.take (rpos (fun j => (L.getD j (0, 0)).1) key L.length) ++ (key, v) :: L.drop (rpos (fun j => (L.getD j (0, 0)).1) key L.length))
def strikeL (L : List (Int32 × Int64)) (key : Int32) : List (Int32 × Int64) :=
  match rfnd (fun j => (L.getD j (0, 0)).1) key 0 L.length with
  | some j => L.take j ++ L.drop (j + 1)
  | none => L
theorem rfnd_congr {f g : Nat → Int32} {key : Int32} : ∀ {m k : Nat}, (∀ j, k ≤ j → j < k + m → f j = g j) → rfnd f key k m = rfnd g key k m
  | 0, _, _ => rfl
  | m + 1, k, h => by
    unfold rfnd
    rw [h k (Nat.le_refl _) (by omega), rfnd_congr (m := m) (k := k + 1) (fun j h1 h2 => h j (by omega) (by omega))]
theorem rpos_congr {f g : Nat → Int32} {key : Int32} : ∀ {n : Nat}, (∀ j, j < n → f j = g j) → rpos f key n = rpos g key n
  | 0, _ => rfl
  | n + 1, h => by
    unfold rpos
    rw [h n (by omega), rpos_congr (n := n) (fun j hj => h j (by omega))]
theorem rowsOf_len {q : xrho} {p : Nat} : (rowsOf q p).length = rowsN q p := by simp [rowsOf]
theorem rowsOf_get {q : xrho} {p j : Nat} (h : j < rowsN q p) : (rowsOf q p)[j]? = some (q.1 20 (60 * p + j), q.2 27 (60 * p + j)) := by
  simp [rowsOf, h]
theorem rowsOf_key {q : xrho} {p j : Nat} (h : j < rowsN q p) : ((rowsOf q p).getD j (0, 0)).1 = q.1 20 (60 * p + j) := by
  rw [List.getD_eq_getElem?_getD, rowsOf_get h]
  rfl
theorem rowsN_of {q : xrho} {p n : Nat} (h : q.1 19 p = nI n) (hn : n ≤ 60) : rowsN q p = n := by
  unfold rowsN
  rw [h, nI_clamp (by omega)]
