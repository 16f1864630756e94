/-! THE REFERENCE'S METHODS: questions of a place; those that send; copies, learns, rangesThere, sends -/
abbrev gserv (q : xrho) (p : Nat) (e : Int32) : Prop := (q.1 15 p = Int32.ofInt 1 ∨ q.1 15 p = Int32.ofInt 2) ∧ q.1 18 p = e
abbrev gown (q : xrho) (p : Nat) : Prop := q.1 15 p = Int32.ofInt 1 ∨ q.1 15 p = Int32.ofInt 2 ∨ q.1 15 p = Int32.ofInt 3
theorem c_isServed {T0 MI B p : Nat} {q : xrho} {e : Int32} {M : xM} (hp : p < 240) : xZ T0 MI 169 0 [some (vr (some B)), some (vi (nI p)), some (vi e)] [] (rput B q M) = some (some (vi (if gserv q p e then 1 else 0)), rput B q M) := by
  rw [rq_169_0, xin_t hp (by decide), cond_true, nI_clamp (n := p) (by omega)]
  have fin : (q.1 15 p = Int32.ofInt 1 ∨ q.1 15 p = Int32.ofInt 2) → xZ T0 MI 169 20 [some (vr (some B)), some (vi (nI p)), some (vi e)] [] (rput B q M) = some (some (vi (if gserv q p e then 1 else 0)), rput B q M) := by
    intro h
    rw [rq_169_20, xin_t hp (by decide), cond_true, nI_clamp (n := p) (by omega)]
    by_cases h2 : q.1 18 p = e
    · rw [if_pos h2, bq_169_30, bq_169_35, xbool1, if_pos ⟨h, h2⟩]
      rfl
    · rw [if_neg h2, bq_169_34, bq_169_35, xbool0, if_neg (fun h3 => h2 h3.2)]
      rfl
  by_cases h0 : q.1 15 p = Int32.ofInt 1
  · rw [if_pos h0]
    exact fin (Or.inl h0)
  · rw [if_neg h0, rq_169_10, xin_t hp (by decide), cond_true, nI_clamp (n := p) (by omega)]
    by_cases h1 : q.1 15 p = Int32.ofInt 2
    · rw [if_pos h1]
      exact fin (Or.inr h1)
    · rw [if_neg h1, bq_169_34, bq_169_35, xbool0, if_neg (fun h3 => h3.1.elim h0 h1)]
      rfl
theorem c_isOwn {T0 MI B p : Nat} {q : xrho} {M : xM} (hp : p < 240) : xZ T0 MI 170 0 [some (vr (some B)), some (vi (nI p))] [] (rput B q M) = some (some (vi (if gown q p then 1 else 0)), rput B q M) := by
  rw [rq_170_0, xin_t hp (by decide), cond_true, nI_clamp (n := p) (by omega)]
  by_cases h0 : q.1 15 p = Int32.ofInt 1
  · rw [if_pos h0, bq_170_30, bq_170_35, xbool1, if_pos (Or.inl h0)]
    rfl
  rw [if_neg h0, rq_170_10, xin_t hp (by decide), cond_true, nI_clamp (n := p) (by omega)]
  by_cases h1 : q.1 15 p = Int32.ofInt 2
  · rw [if_pos h1, bq_170_30, bq_170_35, xbool1, if_pos (Or.inr (Or.inl h1))]
    rfl
  rw [if_neg h1, rq_170_20, xin_t hp (by decide), cond_true, nI_clamp (n := p) (by omega)]
  by_cases h2 : q.1 15 p = Int32.ofInt 3
  · rw [if_pos h2, bq_170_30, bq_170_35, xbool1, if_pos (Or.inr (Or.inr h2))]
    rfl
  · rw [if_neg h2, bq_170_34, bq_170_35, xbool0, if_neg (fun h3 => h3.elim h0 (fun h4 => h4.elim h1 h2))]
    rfl
theorem c_isOpen {T0 MI B p : Nat} {q : xrho} {e : Int32} {M : xM} (hp : p < 240) : xZ T0 MI 171 0 [some (vr (some B)), some (vi (nI p)), some (vi e)] [] (rput B q M) = some (some (vi (if gown q p ∧ q.1 18 p = e then 1 else 0)), rput B q M) := by
  rw [rq_171_0, c_isOwn hp]
  simp only [Option.bind_some, xasI]
  by_cases h : gown q p
  · rw [if_pos h, bq_171_5, if_neg (by decide), rq_171_8, xin_t hp (by decide), cond_true, nI_clamp (n := p) (by omega)]
    by_cases h2 : q.1 18 p = e
    · rw [if_pos h2, bq_171_18, bq_171_23, xbool1, if_pos ⟨h, h2⟩]
      rfl
    · rw [if_neg h2, bq_171_22, bq_171_23, xbool0, if_neg (fun h3 => h2 h3.2)]
      rfl
  · rw [if_neg h, bq_171_5, if_pos rfl, bq_171_22, bq_171_23, xbool0, if_neg (fun h3 => h h3.1)]
    rfl
abbrev gheard (q : xrho) (l p : Nat) : Prop := (q.1 15 p = Int32.ofInt 2 ∨ q.1 15 p = Int32.ofInt 3) ∧ q.1 18 p + Int32.ofInt 1 = q.1 64 l ∧ q.1 22 p = q.1 67 l
theorem c_isHeard {T0 MI B l p : Nat} {q : xrho} {M : xM} (hl : l < 1200) (hp : p < 240) : xZ T0 MI 173 0 [some (vr (some B)), some (vi (nI l)), some (vi (nI p))] [] (rput B q M) = some (some (vi (if gheard q l p then 1 else 0)), rput B q M) := by
  have fin : (q.1 15 p = Int32.ofInt 2 ∨ q.1 15 p = Int32.ofInt 3) → xZ T0 MI 173 20 [some (vr (some B)), some (vi (nI l)), some (vi (nI p))] [] (rput B q M) = some (some (vi (if gheard q l p then 1 else 0)), rput B q M) := by
    intro h
    rw [rq_173_20, xin_t hp (by decide), xin_t hl (by decide)]
    simp only [cond_true]
    rw [nI_clamp (n := p) (by omega), nI_clamp (n := l) (by omega)]
    by_cases h1 : q.1 18 p + Int32.ofInt 1 = q.1 64 l
    · rw [if_pos h1, rq_173_37, xin_t hp (by decide), xin_t hl (by decide)]
      simp only [cond_true]
      rw [nI_clamp (n := p) (by omega), nI_clamp (n := l) (by omega)]
      by_cases h2 : q.1 22 p = q.1 67 l
      · rw [if_pos h2, bq_173_52, bq_173_57, xbool1, if_pos ⟨h, h1, h2⟩]
        rfl
      · rw [if_neg h2, bq_173_56, bq_173_57, xbool0, if_neg (fun h3 => h2 h3.2.2)]
        rfl
    · rw [if_neg h1, bq_173_56, bq_173_57, xbool0, if_neg (fun h3 => h1 h3.2.1)]
      rfl
  rw [rq_173_0, xin_t hp (by decide), cond_true, nI_clamp (n := p) (by omega)]
  by_cases h0 : q.1 15 p = Int32.ofInt 2
  · rw [if_pos h0]
    exact fin (Or.inl h0)
  · rw [if_neg h0, rq_173_10, xin_t hp (by decide), cond_true, nI_clamp (n := p) (by omega)]
    by_cases h1 : q.1 15 p = Int32.ofInt 3
    · rw [if_pos h1]
      exact fin (Or.inr h1)
    · rw [if_neg h1, bq_173_56, bq_173_57, xbool0, if_neg (fun h3 => h3.1.elim h0 h1)]
      rfl
/-! those that send a letter -/
theorem c_back {T0 MI B l : Nat} {q : xrho} {k h r e : Int32} {o5 : Option xV} {M : xM} (hl : l < 1200) (hq : q.1 82 0 = nI l) : xZ T0 MI 185 0 [some (vr (some B)), some (vi k), some (vi h), some (vi r), some (vi e), o5] [] (rput B q M) = some (none, rput B (gnew q l k (Int32.ofInt 0) h r e) M) := by
  rw [rq_185_0, c_newLetter hl hq]
  simp only [Option.bind_some, xasI]
  rw [bq_185_10]
def gansw (q : xrho) (l : Nat) (host caller count : Int32) (v : Int64) (sign : Int32) : xrho := rup (rupL (rup (gnew q l (Int32.ofInt 1) caller host (Int32.ofInt (-9)) (Int32.ofInt (-9))) 66 l count) 77 (3 * l) v) 73 l sign
theorem c_answerTo {T0 MI B l : Nat} {q : xrho} {host caller count : Int32} {v : Int64} {sign : Int32} {o5 o7 : Option xV} {M : xM} (hl : l < 1200) (hq : q.1 82 0 = nI l) : xZ T0 MI 143 0 [some (vr (some B)), some (vi host), some (vi caller), some (vi count), some (vl v), o5, some (vi sign), o7] [] (rput B q M) = some (none, rput B (gansw q l host caller count v sign) M) := by
  rw [rq_143_0, c_newLetter hl hq]
  simp only [Option.bind_some, xasI]
  rw [rq_143_11, k_3, pk_mul, xin_t hl (by decide), xin_t (a := 3 * l) (by omega) (by decide)]
  simp only [cond_true]
  rw [nI_clamp (n := l) (by omega), nI_clamp (n := 3 * l) (by omega)]
  rfl
def gbeg (q : xrho) (l r : Nat) : xrho := rup (gnew q l (Int32.ofInt 3) (q.1 6 r) (Int32.ofInt 0) (nI r) (q.1 8 r)) 72 l (q.1 7 r)
theorem gnew_ne (q : xrho) (l : Nat) (kind to fr r e : Int32) {k : Nat} (h : k < 60 ∨ k = 65 ∨ (70 ≤ k ∧ k ≠ 82)) : (gnew q l kind to fr r e).1 k = q.1 k := by
  unfold gnew
  rw [rup_ne _ _ _ _ (by omega), rup_ne _ _ _ _ (by omega), rup_ne _ _ _ _ (by omega), rup_ne _ _ _ _ (by omega), rup_ne _ _ _ _ (by omega), rup_ne _ _ _ _ (by omega), rup_ne _ _ _ _ (by omega), rup_ne _ _ _ _ (by omega), rup_ne _ _ _ _ (by omega), rup_ne _ _ _ _ (by omega)]
theorem c_begins {T0 MI B l r : Nat} {q : xrho} {o2 : Option xV} {M : xM} (hl : l < 1200) (hr : r < 40) (hq : q.1 82 0 = nI l) : xZ T0 MI 156 0 [some (vr (some B)), some (vi (nI r)), o2] [] (rput B q M) = some (none, rput B (gbeg q l r) M) := by
  rw [rq_156_0, xin_t hr (by decide)]
  simp only [cond_true]
  rw [nI_clamp (n := r) (by omega), c_newLetter hl hq]
  simp only [Option.bind_some, xasI]
  rw [rq_156_19, xin_t hr (by decide), xin_t hl (by decide)]
  simp only [cond_true]
  rw [nI_clamp (n := r) (by omega), nI_clamp (n := l) (by omega), gnew_ne _ _ _ _ _ _ _ (Or.inl (by decide))]
  rfl
/-- rangesThere -/
def gthere (q : xrho) : Nat → Nat → Nat
  | _, 0 => 0
  | r, m + 1 => (if q.1 2 r = 0 then 0 else 1) + gthere q (r + 1) m
theorem c_rangesThere_l {T0 MI B n : Nat} {q : xrho} {M : xM} (hn : n ≤ 40) (hq : q.1 12 0 = nI n) : ∀ m r, r + m = n → ∀ a, xZ T0 MI 153 4 [some (vr (some B)), some (vi (nI a)), some (vi (nI r))] [] (rput B q M) = some (some (vi (nI (a + gthere q r m))), rput B q M) := by
  intro m
  induction m with
  | zero =>
    intro r hr a
    rw [rq_153_4, hq, if_pos (nI_le (by omega) (by omega)), bq_153_35]
    rfl
  | succ m ih =>
    intro r hr a
    rw [rq_153_4, hq, if_neg (nI_ge (by omega) (by omega)), rq_153_12, xin_t (a := r) (n := 40) (by omega) (by decide), cond_true, nI_clamp (n := r) (by omega)]
    by_cases h : q.1 2 r = 0
    · rw [if_pos h, bq_153_26, bq_153_27, k_0, nI_add, k_1, nI_add, ih (r + 1) (by omega)]
      conv => rhs; unfold gthere
      rw [if_pos h]
      simp
    · rw [if_neg h, bq_153_22, bq_153_27, k_1, nI_add, nI_add, ih (r + 1) (by omega)]
      conv => rhs; unfold gthere
      rw [if_neg h, Nat.add_assoc]
theorem c_rangesThere {T0 MI B n : Nat} {q : xrho} {o1 o2 : Option xV} {M : xM} (hn : n ≤ 40) (hq : q.1 12 0 = nI n) : xZ T0 MI 153 0 [some (vr (some B)), o1, o2] [] (rput B q M) = some (some (vi (nI (gthere q 0 n))), rput B q M) := by
  rw [bq_153_0, k_0]
  have e := c_rangesThere_l (T0 := T0) (MI := MI) (B := B) (M := M) hn hq n 0 (by omega) 0
  rw [Nat.zero_add] at e
  exact e
