/-! THE REFERENCE'S METHODS: isOwed, isFree, owes, owesAll, keptAt, isTooOld -/
theorem k_500 : Int32.ofInt 500 = nI 500 := rfl
theorem c_isOwed {T0 MI B r : Nat} {q : xrho} {M : xM} (hr : r < 40) : xZ T0 MI 129 0 [some (vr (some B)), some (vi (nI r))] [] (rput B q M) = some (some (vi (if 0 ≤ q.1 9 (4 * r) ∨ 0 ≤ q.1 9 (4 * r + 1) ∨ 0 ≤ q.1 9 (4 * r + 2) ∨ 0 ≤ q.1 9 (4 * r + 3) then 1 else 0)), rput B q M) := by
  rw [rq_129_0, k_4, pk_mul, xin_t (by omega) (by decide), cond_true, nI_clamp (by omega)]
  by_cases h0 : 0 ≤ q.1 9 (4 * r)
  · rw [if_pos h0, bq_129_50, bq_129_55, xbool1, if_pos (Or.inl h0)]
    rfl
  rw [if_neg h0, rq_129_11, k_4, pk_mul, k_1, nI_add, xin_t (by omega) (by decide), cond_true, nI_clamp (by omega)]
  by_cases h1 : 0 ≤ q.1 9 (4 * r + 1)
  · rw [if_pos h1, bq_129_50, bq_129_55, xbool1, if_pos (Or.inr (Or.inl h1))]
    rfl
  rw [if_neg h1, rq_129_24, k_4, pk_mul, k_2, nI_add, xin_t (by omega) (by decide), cond_true, nI_clamp (by omega)]
  by_cases h2 : 0 ≤ q.1 9 (4 * r + 2)
  · rw [if_pos h2, bq_129_50, bq_129_55, xbool1, if_pos (Or.inr (Or.inr (Or.inl h2)))]
    rfl
  rw [if_neg h2, rq_129_37, k_4, pk_mul, k_3, nI_add, xin_t (by omega) (by decide), cond_true, nI_clamp (by omega)]
  by_cases h3 : 0 ≤ q.1 9 (4 * r + 3)
  · rw [if_neg (Int32.not_lt.mpr h3), bq_129_50, bq_129_55, xbool1, if_pos (Or.inr (Or.inr (Or.inr h3)))]
    rfl
  · rw [if_pos (Int32.not_le.mp h3), bq_129_54, bq_129_55, xbool0, if_neg (by
      rintro (h | h | h | h)
      · exact h0 h
      · exact h1 h
      · exact h2 h
      · exact h3 h)]
    rfl
/-- does THE BOOK owe for r -/
abbrev gowed (q : xrho) (r : Nat) : Prop := 0 ≤ q.1 9 (4 * r) ∨ 0 ≤ q.1 9 (4 * r + 1) ∨ 0 ≤ q.1 9 (4 * r + 2) ∨ 0 ≤ q.1 9 (4 * r + 3)
abbrev gfree (q : xrho) (r h : Nat) : Prop := q.1 7 r < 0 ∧ ¬ gowed q r ∧ q.1 15 (40 * h + r) = Int32.ofInt 1
theorem c_isFree {T0 MI B r h : Nat} {q : xrho} {M : xM} (hr : r < 40) (hh : h < 6) (hq : q.1 6 r = nI h) : ∃ x : Int32, xZ T0 MI 130 0 [some (vr (some B)), some (vi (nI r))] [] (rput B q M) = some (some (vi x), rput B q M) ∧ (gfree q r h → x = 1) ∧ (¬ gfree q r h → x = 0) := by
  rw [rq_130_0, xin_t hr (by decide), cond_true, nI_clamp (by omega)]
  by_cases h0 : 0 ≤ q.1 7 r
  · rw [if_pos h0, bq_130_40, bq_130_41, xbool0]
    exact ⟨0, rfl, fun hf => absurd h0 (Int32.not_le.mpr hf.1), fun _ => rfl⟩
  rw [if_neg h0, rq_130_9, c_isOwed hr]
  simp only [Option.bind_some, xasI]
  by_cases h1 : gowed q r
  · rw [if_pos h1, bq_130_14, if_neg (by decide), bq_130_40, bq_130_41, xbool0]
    exact ⟨0, rfl, fun hf => absurd h1 hf.2.1, fun _ => rfl⟩
  rw [if_neg h1, bq_130_14, if_pos rfl, rq_130_17, xin_t hr (by decide), cond_true, nI_clamp (by omega), hq, c_spot]
  simp only [Option.bind_some, xasI]
  rw [rq_130_31, xin_t (a := 40 * h + r) (by omega) (by decide), cond_true, nI_clamp (by omega)]
  by_cases h2 : q.1 15 (40 * h + r) = Int32.ofInt 1
  · rw [if_pos h2, bq_130_36, bq_130_41, xbool1]
    exact ⟨1, rfl, fun _ => rfl, fun hf => absurd ⟨Int32.not_le.mp h0, h1, h2⟩ hf⟩
  · rw [if_neg h2, bq_130_40, bq_130_41, xbool0]
    exact ⟨0, rfl, fun hf => absurd hf.2.2 h2, fun _ => rfl⟩
/-! owes: a key into the row of those that are to be sent -/
def osh (q : xrho) (b j n : Nat) : xrho := (va_up q.1 26 (insK (q.1 26) b j n), q.2)
theorem osh_n (q : xrho) (b n : Nat) : osh q b n n = q := by
  unfold osh
  rw [insK_n, va_up_id]
theorem osh_step {q : xrho} {b j n : Nat} (h : j < n) : rup (osh q b (j + 1) n) 26 (b + (j + 1)) ((osh q b (j + 1) n).1 26 (b + j)) = osh q b j n := by
  unfold rup osh
  dsimp only
  rw [va_up_self, va_up_up]
  congr 2
  exact insK_step _ h
theorem osh_at {q : xrho} {b j n x : Nat} (hx : x ≤ b + j) : (osh q b j n).1 26 x = q.1 26 x := by
  unfold osh
  dsimp only
  rw [va_up_self]
  unfold insK
  rw [if_neg (by omega)]
theorem osh_25 {q : xrho} {b j n : Nat} : (osh q b j n).1 25 = q.1 25 := by
  unfold osh
  dsimp only
  rw [va_up_ne _ _ (by decide)]
def owesq (q : xrho) (p n pos : Nat) (key : Int32) : xrho := rup (rup (osh q (500 * p) pos n) 26 (500 * p + pos) key) 25 p (nI (n + 1))
theorem c_owes_e {T0 MI B p n pos : Nat} {q : xrho} {key : Int32} {o3 : Option xV} {M : xM} (hp : p < 240) (hn : n < 500) (hpos : pos ≤ n) (hq : q.1 25 p = nI n) : xZ T0 MI 134 91 [some (vr (some B)), some (vi (nI p)), some (vi key), o3, some (vi (nI (500 * p + pos)))] [] (rput B (osh q (500 * p) pos n) M) = some (none, rput B (owesq q p n pos key) M) := by
  rw [rq_134_91, xin_t (a := 500 * p + pos) (by omega) (by decide), xin_t hp (by decide)]
  simp only [cond_true]
  rw [nI_clamp (n := 500 * p + pos) (by omega), nI_clamp (n := p) (by omega)]
  have e : (rup (osh q (500 * p) pos n) 26 (500 * p + pos) key).1 25 p = nI n := by
    unfold rup
    dsimp only
    rw [va_up_ne _ _ (by decide), osh_25, hq]
  rw [e, k_1, nI_add]
  rfl
theorem c_owes_l {T0 MI B p n : Nat} {q : xrho} {key : Int32} {M : xM} (hp : p < 240) (hn : n < 500) (hq : q.1 25 p = nI n) : ∀ j, j ≤ n → xZ T0 MI 134 50 [some (vr (some B)), some (vi (nI p)), some (vi key), some (vi (nI (500 * p))), some (vi (nI (500 * p + j)))] [] (rput B (osh q (500 * p) j n) M) = some (none, rput B (owesq q p n (rpos (fun x => q.1 26 (500 * p + x)) key j) key) M) := by
  intro j
  induction j with
  | zero =>
    intro hj
    rw [bq_134_50, if_pos (nI_le (by omega) (by omega))]
    exact c_owes_e (pos := 0) hp hn hj hq
  | succ j ih =>
    intro hj
    rw [bq_134_50, if_neg (nI_ge (by omega) (by omega)), rq_134_56, k_1, ← Nat.add_assoc, nI_s1, xin_t (by omega) (by decide), cond_true, nI_clamp (n := 500 * p + j) (by omega), osh_at (by omega)]
    by_cases h : key < q.1 26 (500 * p + j)
    · rw [if_neg (Int32.not_le.mpr h), rq_134_69, k_1, nI_s1, k_m1, pk_m1, xin_t (a := 500 * p + j) (by omega) (by decide), xin_t (a := 500 * p + j + 1) (by omega) (by decide)]
      simp only [cond_true]
      rw [nI_clamp (n := 500 * p + j) (by omega), nI_clamp (n := 500 * p + j + 1) (by omega)]
      have e := osh_step (q := q) (b := 500 * p) (j := j) (n := n) (by omega)
      rw [← Nat.add_assoc] at e
      rw [e, ih (by omega)]
      conv => rhs; unfold rpos
      rw [if_pos h]
    · rw [if_pos (Int32.not_lt.mp h)]
      have e : rpos (fun x => q.1 26 (500 * p + x)) key (j + 1) = j + 1 := by
        unfold rpos
        rw [if_neg h]
      rw [e]
      exact c_owes_e (pos := j + 1) hp hn hj hq
theorem c_owes_f {T0 MI B p n : Nat} {q : xrho} {key : Int32} {M : xM} (hp : p < 240) (hn : n < 500) (hq : q.1 25 p = nI n) : ∀ m k, k + m = n → xZ T0 MI 134 9 [some (vr (some B)), some (vi (nI p)), some (vi key), some (vi (nI (500 * p))), some (vi (nI (500 * p + k)))] [] (rput B q M) = some (none, rput B (match rfnd (fun j => q.1 26 (500 * p + j)) key k m with
    | some _ => q
    | none => owesq q p n (rpos (fun x => q.1 26 (500 * p + x)) key n) key) M) := by
  intro m
  induction m with
  | zero =>
    intro k hk
    rw [rq_134_9, xin_t hp (by decide), cond_true, nI_clamp (n := p) (by omega), hq, nI_add, if_pos (nI_le (by omega) (by omega)), rq_134_40, xin_t hp (by decide), cond_true, nI_clamp (n := p) (by omega), hq, nI_add]
    have e := c_owes_l (T0 := T0) (MI := MI) (B := B) (key := key) (M := M) hp hn hq n (Nat.le_refl _)
    rw [osh_n] at e
    rw [e]
    rfl
  | succ m ih =>
    intro k hk
    rw [rq_134_9, xin_t hp (by decide), cond_true, nI_clamp (n := p) (by omega), hq, nI_add, if_neg (nI_ge (by omega) (by omega)), rq_134_22, xin_t (a := 500 * p + k) (by omega) (by decide), cond_true, nI_clamp (n := 500 * p + k) (by omega)]
    by_cases h : q.1 26 (500 * p + k) = key
    · rw [if_pos h, bq_134_33]
      unfold rfnd
      rw [if_pos h]
    · rw [if_neg h, bq_134_34, k_1, nI_add, Nat.add_assoc, ih (k + 1) (by omega)]
      conv => rhs; unfold rfnd
      rw [if_neg h]
/-- owes: what it does to the contents -/
def gowes (q : xrho) (p n : Nat) (key : Int32) : xrho := match rfnd (fun j => q.1 26 (500 * p + j)) key 0 n with
  | some _ => q
  | none => owesq q p n (rpos (fun x => q.1 26 (500 * p + x)) key n) key
theorem c_owes {T0 MI B p n : Nat} {q : xrho} {key : Int32} {o3 o4 : Option xV} {M : xM} (hp : p < 240) (hn : n < 500) (hq : q.1 25 p = nI n) : xZ T0 MI 134 0 [some (vr (some B)), some (vi (nI p)), some (vi key), o3, o4] [] (rput B q M) = some (none, rput B (gowes q p n key) M) := by
  rw [bq_134_0, k_500, pk_mul]
  exact c_owes_f hp hn hq n 0 (by omega)
/-! kept answers -/
theorem c_keptAt_l {T0 MI B c n : Nat} {q : xrho} {count : Int32} {o1 o2 : Option xV} {M : xM} (hc : c < 1440) (hn : n ≤ 4) (hq : q.1 34 c = nI n) : ∀ m k, k + m = n → xZ T0 MI 136 11 [some (vr (some B)), o1, o2, some (vi count), some (vi (nI c)), some (vi (nI k))] [] (rput B q M) = some (some (vi (rfndI (rfnd (fun j => q.1 35 (4 * c + j)) count k m) (4 * c))), rput B q M) := by
  intro m
  induction m with
  | zero =>
    intro k hk
    rw [rq_136_11, xin_t hc (by decide), cond_true, nI_clamp (n := c) (by omega), hq, if_pos (nI_le (by omega) (by omega)), bq_136_53]
    rfl
  | succ m ih =>
    intro k hk
    rw [rq_136_11, xin_t hc (by decide), cond_true, nI_clamp (n := c) (by omega), hq, if_neg (nI_ge (by omega) (by omega)), rq_136_23, k_4, pk_mul, nI_add, xin_t (a := 4 * c + k) (by omega) (by decide), cond_true, nI_clamp (n := 4 * c + k) (by omega)]
    by_cases h : q.1 35 (4 * c + k) = count
    · rw [if_pos h, bq_136_39, k_4, pk_mul, nI_add]
      unfold rfnd
      rw [if_pos h]
      rfl
    · rw [if_neg h, bq_136_47, k_1, nI_add, ih (k + 1) (by omega)]
      conv => rhs; unfold rfnd
      rw [if_neg h]
theorem c_keptAt {T0 MI B p c n : Nat} {q : xrho} {count : Int32} {o4 o5 : Option xV} {M : xM} (hp : p < 240) (hc : c < 6) (hn : n ≤ 4) (hq : q.1 34 (6 * p + c) = nI n) : xZ T0 MI 136 0 [some (vr (some B)), some (vi (nI p)), some (vi (nI c)), some (vi count), o4, o5] [] (rput B q M) = some (some (vi (rfndI (rfnd (fun j => q.1 35 (4 * (6 * p + c) + j)) count 0 n) (4 * (6 * p + c)))), rput B q M) := by
  rw [bq_136_0, k_6, pk_mul, nI_add, k_0]
  exact c_keptAt_l (by omega) hn hq n 0 (by omega)
theorem c_isTooOld {T0 MI B p c n : Nat} {q : xrho} {count : Int32} {o4 : Option xV} {M : xM} (hp : p < 240) (hc : c < 6) (hn : n ≤ 4) (hq : q.1 34 (6 * p + c) = nI n) : xZ T0 MI 137 0 [some (vr (some B)), some (vi (nI p)), some (vi (nI c)), some (vi count), o4] [] (rput B q M) = some (some (vi (if n = 4 ∧ count < q.1 35 (4 * (6 * p + c) + 3) then 1 else 0)), rput B q M) := by
  rw [rq_137_0, k_6, pk_mul, nI_add, xin_t (a := 6 * p + c) (by omega) (by decide), cond_true, nI_clamp (n := 6 * p + c) (by omega), hq, k_4]
  by_cases h : n = 4
  · subst h
    rw [if_pos rfl, rq_137_19, k_4, pk_mul, nI_add, k_1, show nI (4 * (6 * p + c) + 4) - nI 1 = nI (4 * (6 * p + c) + 3) from nI_s1 _, xin_t (by omega) (by decide), cond_true, nI_clamp (by omega)]
    by_cases h2 : count < q.1 35 (4 * (6 * p + c) + 3)
    · rw [if_neg (Int32.not_le.mpr h2), bq_137_36, bq_137_41, xbool1, if_pos ⟨rfl, h2⟩]
      rfl
    · rw [if_pos (Int32.not_lt.mp h2), bq_137_40, bq_137_41, xbool0, if_neg (fun h3 => h2 h3.2)]
      rfl
  · rw [if_neg (fun e => h ((nI_eq (by omega) (by omega)).mp e)), bq_137_40, bq_137_41, xbool0, if_neg (fun h3 => h h3.1)]
    rfl
