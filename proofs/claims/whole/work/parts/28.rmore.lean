/-! THE REFERENCE'S METHODS: nothingKept, keepAll, owesAll, answerTo, back, begins -/
def nkS (q : xrho) (p c : Nat) : xrho := (va_up q.1 34 (fun x => if 6 * p ≤ x ∧ x < 6 * p + c then nI 0 else q.1 34 x), q.2)
theorem nkS_0 (q : xrho) (p : Nat) : nkS q p 0 = q := by
  unfold nkS
  have : (fun x => if 6 * p ≤ x ∧ x < 6 * p + 0 then nI 0 else q.1 34 x) = q.1 34 := by
    funext x
    rw [if_neg (by omega)]
  rw [this, va_up_id]
theorem nkS_step (q : xrho) (p c : Nat) : rup (nkS q p c) 34 (6 * p + c) (nI 0) = nkS q p (c + 1) := by
  unfold rup nkS
  dsimp only
  rw [va_up_self, va_up_up]
  congr 2
  funext x
  unfold upd
  by_cases h : x = 6 * p + c
  · subst h
    rw [if_pos rfl, if_pos (by omega)]
  · rw [if_neg h]
    dsimp only
    by_cases h2 : 6 * p ≤ x ∧ x < 6 * p + c
    · rw [if_pos h2, if_pos (by omega)]
    · rw [if_neg h2, if_neg (by omega)]
theorem c_nothingKept_l {T0 MI B p : Nat} {q : xrho} {M : xM} (hp : p < 240) : ∀ m c, c + m = 6 → xZ T0 MI 140 2 [some (vr (some B)), some (vi (nI p)), some (vi (nI c))] [] (rput B (nkS q p c) M) = some (none, rput B (nkS q p 6) M) := by
  intro m
  induction m with
  | zero =>
    intro c hc
    rw [bq_140_2, k_6, if_pos (nI_le (by omega) (by omega)), bq_140_26, show c = 6 by omega]
  | succ m ih =>
    intro c hc
    rw [bq_140_2, k_6, if_neg (nI_ge (by omega) (by omega)), rq_140_8, k_6, pk_mul, nI_add, xin_t (a := 6 * p + c) (by omega) (by decide), cond_true, nI_clamp (n := 6 * p + c) (by omega), k_0, nkS_step, k_1, nI_add]
    exact ih (c + 1) (by omega)
theorem c_nothingKept {T0 MI B p : Nat} {q : xrho} {o2 : Option xV} {M : xM} (hp : p < 240) : xZ T0 MI 140 0 [some (vr (some B)), some (vi (nI p)), o2] [] (rput B q M) = some (none, rput B (nkS q p 6) M) := by
  rw [bq_140_0, k_0]
  have e := c_nothingKept_l (T0 := T0) (MI := MI) (B := B) (q := q) (M := M) hp 6 0 (by omega)
  rw [nkS_0] at e
  exact e
/-! how many are kept, before and behind a keep -/
def nK (q : xrho) (c : Nat) : Nat := (q.1 34 c).toNatClampNeg
def okK (q : xrho) (c : Nat) : Prop := q.1 34 c = nI (nK q c) ∧ nK q c ≤ 4
theorem okK_of {q : xrho} {c n : Nat} (h : q.1 34 c = nI n) (hn : n ≤ 4) : okK q c ∧ nK q c = n := by
  have e : nK q c = n := by
    unfold nK
    rw [h, nI_clamp (by omega)]
  exact ⟨⟨by rw [e]; exact h, by omega⟩, e⟩
theorem ksh_ne (q : xrho) (b j n : Nat) {k : Nat} (h1 : k ≠ 35) (h2 : k ≠ 36) : (ksh q b j n).1 k = q.1 k := by
  unfold ksh
  dsimp only
  rw [va_up_ne _ _ h2, va_up_ne _ _ h1]
theorem keepq_ne (q : xrho) (c s pos : Nat) (count : Int32) (v : Int64) (sign : Int32) {k : Nat} (h1 : k ≠ 35) (h2 : k ≠ 36) : (keepq q c s pos count v sign).1 k = q.1 k := by
  unfold keepq
  rw [rup_ne _ _ _ _ h2, rupL_1, rup_ne _ _ _ _ h1, ksh_ne _ _ _ _ h1 h2]
theorem gkeep_ne (q : xrho) (c n : Nat) (count : Int32) (v : Int64) (sign : Int32) {k : Nat} (h0 : k ≠ 34) (h1 : k ≠ 35) (h2 : k ≠ 36) : (gkeep q c n count v sign).1 k = q.1 k := by
  unfold gkeep
  split
  · rfl
  · split
    · rfl
    · split
      · exact keepq_ne _ _ _ _ _ _ _ h1 h2
      · rw [keepq_ne _ _ _ _ _ _ _ h1 h2, rup_ne _ _ _ _ h0]
theorem gkeep_34 (q : xrho) (c n : Nat) (count : Int32) (v : Int64) (sign : Int32) (hq : q.1 34 c = nI n) (hn : n ≤ 4) : okK (gkeep q c n count v sign) c ∧ ∀ c', c' ≠ c → (gkeep q c n count v sign).1 34 c' = q.1 34 c' := by
  unfold gkeep
  split
  · exact ⟨(okK_of hq hn).1, fun _ _ => rfl⟩
  · split
    · exact ⟨(okK_of hq hn).1, fun _ _ => rfl⟩
    · split
      · rename_i h4
        refine ⟨(okK_of (n := n) ?_ hn).1, fun c' _ => ?_⟩
        · rw [keepq_ne _ _ _ _ _ _ _ (by decide) (by decide)]
          exact hq
        · rw [keepq_ne _ _ _ _ _ _ _ (by decide) (by decide)]
      · rename_i h4
        refine ⟨(okK_of (n := n + 1) ?_ (by omega)).1, fun c' hc' => ?_⟩
        · rw [keepq_ne _ _ _ _ _ _ _ (by decide) (by decide), rup_at]
        · rw [keepq_ne _ _ _ _ _ _ _ (by decide) (by decide)]
          unfold rup
          dsimp only
          rw [va_up_self]
          unfold upd
          rw [if_neg hc']
/-! keepAll: caller by caller, place by place -/
def gkA (p f c : Nat) : Nat → Nat → xrho → xrho
  | _, 0, q => q
  | k, m + 1, q => gkA p f c (k + 1) m (gkeep q (6 * p + c) (nK q (6 * p + c)) (q.1 35 (4 * (6 * f + c) + k)) (q.2 37 (4 * (6 * f + c) + k)) (q.1 36 (4 * (6 * f + c) + k)))
def gkB (p f : Nat) : Nat → Nat → xrho → xrho
  | _, 0, q => q
  | c, m + 1, q => gkB p f (c + 1) m (gkA p f c 0 (nK q (6 * f + c)) q)
theorem gkA_34 {p f c : Nat} (hpf : p ≠ f) : ∀ m k q, okK q (6 * p + c) → okK (gkA p f c k m q) (6 * p + c) ∧ ∀ c', c' ≠ 6 * p + c → (gkA p f c k m q).1 34 c' = q.1 34 c'
  | 0, _, q, h => ⟨h, fun _ _ => rfl⟩
  | m + 1, k, q, h => by
    obtain ⟨g1, g2⟩ := gkeep_34 q (6 * p + c) (nK q (6 * p + c)) (q.1 35 (4 * (6 * f + c) + k)) (q.2 37 (4 * (6 * f + c) + k)) (q.1 36 (4 * (6 * f + c) + k)) h.1 h.2
    obtain ⟨e1, e2⟩ := gkA_34 hpf m (k + 1) _ g1
    exact ⟨e1, fun c' hc' => (e2 c' hc').trans (g2 c' hc')⟩
theorem c_keepAll_l {T0 MI B p f c n : Nat} {M : xM} (hp : p < 240) (hf : f < 240) (hc : c < 6) (hpf : p ≠ f) (hn : n ≤ 4) : ∀ m k, k + m = n → ∀ (q : xrho) (o5 : Option xV), okK q (6 * p + c) → q.1 34 (6 * f + c) = nI n → ∃ o4 o5', xZ T0 MI 139 11 [some (vr (some B)), some (vi (nI p)), some (vi (nI f)), some (vi (nI c)), some (vi (nI k)), o5] [] (rput B q M) = xZ T0 MI 139 73 [some (vr (some B)), some (vi (nI p)), some (vi (nI f)), some (vi (nI c)), o4, o5'] [] (rput B (gkA p f c k m q) M) := by
  intro m
  induction m with
  | zero =>
    intro k hk q o5 hq1 hq2
    refine ⟨some (vi (nI k)), o5, ?_⟩
    rw [rq_139_11, k_6, pk_mul, nI_add, xin_t (a := 6 * f + c) (by omega) (by decide), cond_true, nI_clamp (n := 6 * f + c) (by omega), hq2, if_pos (nI_le (by omega) (by omega))]
    rfl
  | succ m ih =>
    intro k hk q o5 hq1 hq2
    obtain ⟨g1, g2⟩ := gkeep_34 q (6 * p + c) (nK q (6 * p + c)) (q.1 35 (4 * (6 * f + c) + k)) (q.2 37 (4 * (6 * f + c) + k)) (q.1 36 (4 * (6 * f + c) + k)) hq1.1 hq1.2
    obtain ⟨o4, o5', e⟩ := ih (k + 1) (by omega) _ (some (vi (nI (4 * (6 * f + c) + k)))) g1 ((g2 _ (by omega)).trans hq2)
    refine ⟨o4, o5', ?_⟩
    rw [rq_139_11, k_6, pk_mul, nI_add, xin_t (a := 6 * f + c) (by omega) (by decide), cond_true, nI_clamp (n := 6 * f + c) (by omega), hq2, if_neg (nI_ge (by omega) (by omega)), rq_139_27, k_6, pk_mul, nI_add, k_4, pk_mul, nI_add, xin_t (a := 4 * (6 * f + c) + k) (by omega) (by decide)]
    simp only [cond_true]
    rw [nI_clamp (n := 4 * (6 * f + c) + k) (by omega), c_keep hp hc hq1.2 hq1.1]
    simp only [Option.bind_some, Option.isNone_none, cond_true]
    rw [bq_139_67, k_1, nI_add, e]
    rfl
theorem c_keepAll_o {T0 MI B p f : Nat} {M : xM} (hp : p < 240) (hf : f < 240) (hpf : p ≠ f) : ∀ m c, c + m = 6 → ∀ (q : xrho) (o4 o5 : Option xV), (∀ c, c < 6 → okK q (6 * p + c)) → (∀ c, c < 6 → okK q (6 * f + c)) → xZ T0 MI 139 2 [some (vr (some B)), some (vi (nI p)), some (vi (nI f)), some (vi (nI c)), o4, o5] [] (rput B q M) = some (none, rput B (gkB p f c m q) M) := by
  intro m
  induction m with
  | zero =>
    intro c hc q o4 o5 _ _
    rw [bq_139_2, k_6, if_pos (nI_le (by omega) (by omega)), bq_139_79]
    rfl
  | succ m ih =>
    intro c hc q o4 o5 h1 h2
    obtain ⟨o4', o5', e⟩ := c_keepAll_l (T0 := T0) (MI := MI) (B := B) (M := M) hp hf (c := c) (by omega) hpf (h2 c (by omega)).2 (nK q (6 * f + c)) 0 (by omega) q o5 (h1 c (by omega)) (h2 c (by omega)).1
    obtain ⟨g1, g2⟩ := gkA_34 (c := c) hpf (nK q (6 * f + c)) 0 q (h1 c (by omega))
    have ok' : ∀ x, x ≠ 6 * p + c → okK q x → okK (gkA p f c 0 (nK q (6 * f + c)) q) x := by
      intro x hx hk
      exact (okK_of ((g2 x hx).trans hk.1) hk.2).1
    rw [bq_139_2, k_6, if_neg (nI_ge (by omega) (by omega)), bq_139_8, k_0, e, bq_139_73, k_1, nI_add, ih (c + 1) (by omega) _ _ _ (fun c' hc' => ?_) (fun c' hc' => ok' _ (by omega) (h2 c' hc'))]
    · rfl
    · by_cases hcc : c' = c
      · subst hcc
        exact g1
      · exact ok' _ (by omega) (h1 c' hc')
theorem c_keepAll {T0 MI B p f : Nat} {q : xrho} {o3 o4 o5 : Option xV} {M : xM} (hp : p < 240) (hf : f < 240) (hpf : p ≠ f) (h1 : ∀ c, c < 6 → okK q (6 * p + c)) (h2 : ∀ c, c < 6 → okK q (6 * f + c)) : xZ T0 MI 139 0 [some (vr (some B)), some (vi (nI p)), some (vi (nI f)), o3, o4, o5] [] (rput B q M) = some (none, rput B (gkB p f 0 6 q) M) := by
  rw [bq_139_0, k_0]
  exact c_keepAll_o hp hf hpf 6 0 (by omega) q _ _ h1 h2
/-! owesAll -/
def nS (q : xrho) (p : Nat) : Nat := (q.1 25 p).toNatClampNeg
theorem owesq_ne (q : xrho) (p n pos : Nat) (key : Int32) {k : Nat} (h1 : k ≠ 25) (h2 : k ≠ 26) : (owesq q p n pos key).1 k = q.1 k := by
  unfold owesq
  rw [rup_ne _ _ _ _ h1, rup_ne _ _ _ _ h2]
  unfold osh
  dsimp only
  rw [va_up_ne _ _ h2]
theorem gowes_ne (q : xrho) (p n : Nat) (key : Int32) {k : Nat} (h1 : k ≠ 25) (h2 : k ≠ 26) : (gowes q p n key).1 k = q.1 k := by
  unfold gowes
  split
  · rfl
  · exact owesq_ne _ _ _ _ _ h1 h2
theorem gowes_25 (q : xrho) (p n : Nat) (key : Int32) (hq : q.1 25 p = nI n) : ∃ n', n ≤ n' ∧ n' ≤ n + 1 ∧ (gowes q p n key).1 25 p = nI n' := by
  unfold gowes
  split
  · exact ⟨n, Nat.le_refl _, by omega, hq⟩
  · exact ⟨n + 1, by omega, Nat.le_refl _, rup_at _ _ _ _⟩
def goA (p : Nat) : Nat → Nat → xrho → xrho
  | _, 0, q => q
  | k, m + 1, q => goA p (k + 1) m (gowes q p (nS q p) (q.1 20 (60 * p + k)))
theorem c_owesAll_l {T0 MI B p n : Nat} {M : xM} (hp : p < 240) (hn : n ≤ 60) : ∀ m k, k + m = n → ∀ (q : xrho) (s : Nat), q.1 19 p = nI n → q.1 25 p = nI s → s ≤ k → xZ T0 MI 135 9 [some (vr (some B)), some (vi (nI p)), some (vi (nI k))] [] (rput B q M) = some (none, rput B (goA p k m q) M) := by
  intro m
  induction m with
  | zero =>
    intro k hk q s h1 h2 h3
    rw [rq_135_9, xin_t hp (by decide), cond_true, nI_clamp (n := p) (by omega), h1, if_pos (nI_le (by omega) (by omega)), bq_135_41]
    rfl
  | succ m ih =>
    intro k hk q s h1 h2 h3
    have hs : nS q p = s := by
      unfold nS
      rw [h2, nI_clamp (by omega)]
    obtain ⟨s', g1, g2, g3⟩ := gowes_25 q p s (q.1 20 (60 * p + k)) h2
    rw [rq_135_9, xin_t hp (by decide), cond_true, nI_clamp (n := p) (by omega), h1, if_neg (nI_ge (by omega) (by omega)), rq_135_19, k_60, pk_mul, nI_add, xin_t (a := 60 * p + k) (by omega) (by decide), cond_true, nI_clamp (n := 60 * p + k) (by omega), c_owes hp (by omega) h2]
    simp only [Option.bind_some, Option.isNone_none, cond_true]
    rw [bq_135_35, k_1, nI_add, ih (k + 1) (by omega) _ s' (by rw [gowes_ne _ _ _ _ (by decide) (by decide)]; exact h1) g3 (by omega)]
    conv => rhs; unfold goA
    rw [hs]
theorem c_owesAll {T0 MI B p n : Nat} {q : xrho} {o2 : Option xV} {M : xM} (hp : p < 240) (hn : n ≤ 60) (hq : q.1 19 p = nI n) : xZ T0 MI 135 0 [some (vr (some B)), some (vi (nI p)), o2] [] (rput B q M) = some (none, rput B (goA p 0 n (rup q 25 p (nI 0))) M) := by
  rw [rq_135_0, xin_t hp (by decide), cond_true, nI_clamp (n := p) (by omega), k_0]
  exact c_owesAll_l hp hn n 0 (by omega) _ 0 (by rw [rup_ne _ _ _ _ (by decide)]; exact hq) (rup_at _ _ _ _) (Nat.le_refl _)
