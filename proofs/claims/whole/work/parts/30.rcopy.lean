/-! THE REFERENCE'S METHODS: copies, learns, sends, sendsOwed, partLetter, isAnew, isToCaller, weigh -/
theorem k_10000 : Int32.ofInt 10000 = nI 10000 := by decide
def filK {α : Type} (f : Nat → α) (a z : Nat) (v : α) : Nat → α := fun x => if a ≤ x ∧ x < z then v else f x
theorem filK_0 {α : Type} (f : Nat → α) (a : Nat) (v : α) : filK f a a v = f := by
  funext x
  unfold filK
  rw [if_neg (by omega)]
theorem filK_step (f : Nat → Int32) {a z : Nat} (h : a ≤ z) (v : Int32) : upd (filK f a z v) z v = filK f a (z + 1) v := by
  funext x
  unfold upd filK
  by_cases hx : x = z
  · subst hx
    rw [if_pos rfl, if_pos (by omega)]
  · rw [if_neg hx]
    by_cases h2 : a ≤ x ∧ x < z
    · rw [if_pos h2, if_pos (by omega)]
    · rw [if_neg h2, if_neg (by omega)]
/-- the copy's places [a, z) hold this spot -/
def cps (q : xrho) (a z : Nat) (r e h lo hi : Int32) : xrho := (va_up (va_up (va_up (va_up (va_up q.1 55 (filK (q.1 55) a z r)) 56 (filK (q.1 56) a z e)) 57 (filK (q.1 57) a z h)) 58 (filK (q.1 58) a z lo)) 59 (filK (q.1 59) a z hi), q.2)
theorem cps_0 (q : xrho) (a : Nat) (r e h lo hi : Int32) : cps q a a r e h lo hi = q := by
  unfold cps
  rw [filK_0, filK_0, filK_0, filK_0, filK_0, va_up_id, va_up_id, va_up_id, va_up_id, va_up_id]
theorem va_up_comm {α : Type} (f : Nat → α) {a b : Nat} (h : a ≠ b) (x y : α) : va_up (va_up f a x) b y = va_up (va_up f b y) a x := by
  funext k
  unfold va_up
  by_cases hb : k = b
  · subst hb
    rw [if_pos rfl, if_neg (fun e => h e.symm), if_pos rfl]
  · rw [if_neg hb]
    by_cases ha : k = a
    · rw [if_pos ha, if_pos ha]
    · rw [if_neg ha, if_neg ha, if_neg hb]
theorem cps_55 (q : xrho) (a z : Nat) (r e h lo hi : Int32) : (cps q a z r e h lo hi).1 55 = filK (q.1 55) a z r ∧ (cps q a z r e h lo hi).1 56 = filK (q.1 56) a z e ∧ (cps q a z r e h lo hi).1 57 = filK (q.1 57) a z h ∧ (cps q a z r e h lo hi).1 58 = filK (q.1 58) a z lo ∧ (cps q a z r e h lo hi).1 59 = filK (q.1 59) a z hi := ⟨rfl, rfl, rfl, rfl, rfl⟩
theorem cps_ne (q : xrho) (a z : Nat) (r e h lo hi : Int32) {k : Nat} (hk : k < 55 ∨ 60 ≤ k) : (cps q a z r e h lo hi).1 k = q.1 k := by
  unfold cps
  dsimp only
  rw [va_up_ne _ _ (by omega), va_up_ne _ _ (by omega), va_up_ne _ _ (by omega), va_up_ne _ _ (by omega), va_up_ne _ _ (by omega)]
theorem cps_step (q : xrho) {a z : Nat} (h9 : a ≤ z) (r e h lo hi : Int32) : rup (rup (rup (rup (rup (cps q a z r e h lo hi) 55 z r) 56 z e) 57 z h) 58 z lo) 59 z hi = cps q a (z + 1) r e h lo hi := by
  obtain ⟨f1, f2, f3, f4, f5⟩ := cps_55 q a z r e h lo hi
  apply Prod.ext
  · funext k
    show va_up (va_up (va_up (va_up (va_up (cps q a z r e h lo hi).1 55 (upd ((cps q a z r e h lo hi).1 55) z r)) 56 (upd ((cps q a z r e h lo hi).1 56) z e)) 57 (upd ((cps q a z r e h lo hi).1 57) z h)) 58 (upd ((cps q a z r e h lo hi).1 58) z lo)) 59 (upd ((cps q a z r e h lo hi).1 59) z hi) k = va_up (va_up (va_up (va_up (va_up q.1 55 (filK (q.1 55) a (z + 1) r)) 56 (filK (q.1 56) a (z + 1) e)) 57 (filK (q.1 57) a (z + 1) h)) 58 (filK (q.1 58) a (z + 1) lo)) 59 (filK (q.1 59) a (z + 1) hi) k
    rw [f1, f2, f3, f4, f5, filK_step _ h9, filK_step _ h9, filK_step _ h9, filK_step _ h9, filK_step _ h9]
    unfold va_up
    by_cases k59 : k = 59
    · rw [if_pos k59, if_pos k59]
    rw [if_neg k59, if_neg k59]
    by_cases k58 : k = 58
    · rw [if_pos k58, if_pos k58]
    rw [if_neg k58, if_neg k58]
    by_cases k57 : k = 57
    · rw [if_pos k57, if_pos k57]
    rw [if_neg k57, if_neg k57]
    by_cases k56 : k = 56
    · rw [if_pos k56, if_pos k56]
    rw [if_neg k56, if_neg k56]
    by_cases k55 : k = 55
    · rw [if_pos k55, if_pos k55]
    rw [if_neg k55, if_neg k55]
    exact cps_ne q a z r e h lo hi (by omega)
  · rfl
theorem c_copies_l {T0 MI B c lo hi : Nat} {q : xrho} {r e h : Int32} {M : xM} (hc : c < 6) (hhi : hi ≤ 10000) : ∀ m j, lo ≤ j → j + m = hi → xZ T0 MI 146 9 [some (vr (some B)), some (vi (nI c)), some (vi r), some (vi (nI lo)), some (vi (nI hi)), some (vi e), some (vi h), some (vi (nI (10000 * c + j)))] [] (rput B (cps q (10000 * c + lo) (10000 * c + j) r e h (nI lo) (nI hi)) M) = some (none, rput B (cps q (10000 * c + lo) (10000 * c + hi) r e h (nI lo) (nI hi)) M) := by
  intro m
  induction m with
  | zero =>
    intro j hj1 hj
    rw [bq_146_9, k_10000, pk_mul, nI_add, if_pos (nI_le (by omega) (by omega)), bq_146_71, show j = hi by omega]
  | succ m ih =>
    intro j hj1 hj
    rw [bq_146_9, k_10000, pk_mul, nI_add, if_neg (nI_ge (by omega) (by omega)), rq_146_22, xin_t (a := 10000 * c + j) (by omega) (by decide)]
    simp only [cond_true]
    rw [nI_clamp (n := 10000 * c + j) (by omega), cps_step _ (by omega), k_1, nI_add]
    have e := ih (j + 1) (by omega) (by omega)
    rw [← Nat.add_assoc] at e
    exact e
theorem c_copies {T0 MI B c lo hi : Nat} {q : xrho} {r e h : Int32} {o7 : Option xV} {M : xM} (hc : c < 6) (hlo : lo ≤ hi) (hhi : hi ≤ 10000) : xZ T0 MI 146 0 [some (vr (some B)), some (vi (nI c)), some (vi r), some (vi (nI lo)), some (vi (nI hi)), some (vi e), some (vi h), o7] [] (rput B q M) = some (none, rput B (cps q (10000 * c + lo) (10000 * c + hi) r e h (nI lo) (nI hi)) M) := by
  rw [bq_146_0, k_10000, pk_mul, nI_add]
  have e := c_copies_l (T0 := T0) (MI := MI) (B := B) (q := q) (r := r) (e := e) (h := h) (M := M) hc hhi (hi - lo) lo (Nat.le_refl _) (by omega)
  rw [cps_0] at e
  exact e
/-- learns: every range that is there -/
def glearn (c : Nat) : Nat → Nat → xrho → xrho
  | _, 0, q => q
  | r, m + 1, q => glearn c (r + 1) m (if q.1 2 r = 0 then q else cps q (10000 * c + (q.1 3 r).toNatClampNeg) (10000 * c + (q.1 4 r).toNatClampNeg) (nI r) (q.1 5 r) (q.1 6 r) (q.1 3 r) (q.1 4 r))
def okSp (q : xrho) (r : Nat) : Prop := q.1 3 r = nI (q.1 3 r).toNatClampNeg ∧ q.1 4 r = nI (q.1 4 r).toNatClampNeg ∧ (q.1 3 r).toNatClampNeg ≤ (q.1 4 r).toNatClampNeg ∧ (q.1 4 r).toNatClampNeg ≤ 10000
theorem c_learns_l {T0 MI B c n : Nat} {M : xM} (hc : c < 6) (hn : n ≤ 40) : ∀ m r, r + m = n → ∀ q : xrho, q.1 12 0 = nI n → (∀ r, r < n → okSp q r) → xZ T0 MI 145 2 [some (vr (some B)), some (vi (nI c)), some (vi (nI r))] [] (rput B q M) = some (none, rput B (glearn c r m q) M) := by
  intro m
  induction m with
  | zero =>
    intro r hr q hq _
    rw [rq_145_2, hq, if_pos (nI_le (by omega) (by omega)), bq_145_55]
    rfl
  | succ m ih =>
    intro r hr q hq hs
    rw [rq_145_2, hq, if_neg (nI_ge (by omega) (by omega)), rq_145_10, xin_t (a := r) (n := 40) (by omega) (by decide), cond_true, nI_clamp (n := r) (by omega)]
    by_cases h : q.1 2 r = 0
    · rw [if_pos h, bq_145_49, k_1, nI_add, ih (r + 1) (by omega) q hq hs]
      conv => rhs; unfold glearn
      rw [if_pos h]
    · obtain ⟨s1, s2, s3, s4⟩ := hs r (by omega)
      rw [if_neg h, rq_145_19, xin_t (a := r) (n := 40) (by omega) (by decide)]
      simp only [cond_true]
      rw [nI_clamp (n := r) (by omega)]
      have e := c_copies (T0 := T0) (MI := MI) (B := B) (q := q) (r := nI r) (e := q.1 5 r) (h := q.1 6 r) (o7 := none) (M := M) hc s3 s4
      rw [← s1, ← s2] at e
      rw [e]
      simp only [Option.bind_some, Option.isNone_none, cond_true]
      rw [bq_145_49, k_1, nI_add, ih (r + 1) (by omega) _ (by rw [cps_ne _ _ _ _ _ _ _ _ (by decide)]; exact hq) (fun r' hr' => ?_)]
      · conv => rhs; unfold glearn
        rw [if_neg h]
      · unfold okSp
        rw [cps_ne _ _ _ _ _ _ _ _ (by decide), cps_ne _ _ _ _ _ _ _ _ (by decide)]
        exact hs r' hr'
theorem c_learns {T0 MI B c n : Nat} {q : xrho} {o2 : Option xV} {M : xM} (hc : c < 6) (hn : n ≤ 40) (hq : q.1 12 0 = nI n) (hs : ∀ r, r < n → okSp q r) : xZ T0 MI 145 0 [some (vr (some B)), some (vi (nI c)), o2] [] (rput B q M) = some (none, rput B (glearn c 0 n q) M) := by
  rw [bq_145_0, k_0]
  exact c_learns_l hc hn n 0 (by omega) q hq hs
/-- sends: the letter of a call -/
def gsends (q : xrho) (l c count key : Nat) : xrho := rup (rup (gnew q l (Int32.ofInt 0) (q.1 57 (10000 * c + key)) (nI c) (q.1 55 (10000 * c + key)) (q.1 56 (10000 * c + key))) 66 l (nI count)) 50 (60 * c + count) (q.1 50 (60 * c + count) + Int32.ofInt 1)
theorem c_sends {T0 MI B l c count key : Nat} {q : xrho} {o3 o4 o5 : Option xV} {M : xM} (hl : l < 1200) (hc : c < 6) (hn : count < 60) (hk : key < 10000) (hq : q.1 82 0 = nI l) (hkey : q.1 48 (60 * c + count) = nI key) : xZ T0 MI 147 0 [some (vr (some B)), some (vi (nI c)), some (vi (nI count)), o3, o4, o5] [] (rput B q M) = some (some (vi (nI l)), rput B (gsends q l c count key) M) := by
  rw [rq_147_0, k_60, pk_mul, nI_add, nI_clamp (n := 60 * c + count) (by omega), hkey, k_10000, pk_mul, nI_add, xin_t (a := 60 * c + count) (by omega) (by decide), xin_t (a := 10000 * c + key) (by omega) (by decide)]
  simp only [cond_true]
  rw [nI_clamp (n := 10000 * c + key) (by omega), c_newLetter hl hq]
  simp only [Option.bind_some, xasI]
  rw [rq_147_48, xin_t hl (by decide), xin_t (a := 60 * c + count) (by omega) (by decide)]
  simp only [cond_true]
  rw [nI_clamp (n := l) (by omega), nI_clamp (n := 60 * c + count) (by omega), rup_ne _ _ _ _ (by decide), gnew_ne _ _ _ _ _ _ _ (Or.inl (by decide))]
  rfl
