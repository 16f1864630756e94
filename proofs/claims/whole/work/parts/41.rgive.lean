/-! LETTERS THAT BEAR ROWS: copies of windows -/
theorem xr_ext {a b : xrho} (h1 : ∀ k i, a.1 k i = b.1 k i) (h2 : ∀ k i, a.2 k i = b.2 k i) : a = b := Prod.ext (funext fun k => funext fun i => h1 k i) (funext fun k => funext fun i => h2 k i)
theorem rup_r (q : xrho) (k i : Nat) (x : Int32) (f y : Nat) : (rup q k i x).1 f y = if f = k ∧ y = i then x else q.1 f y := by
  by_cases e : f = k
  · subst e
    rw [rup_i]
    by_cases e2 : y = i
    · rw [if_pos e2, if_pos ⟨rfl, e2⟩]
    · rw [if_neg e2, if_neg (fun h => e2 h.2)]
  · rw [rup_ne _ _ _ _ e, if_neg (fun h => e h.1)]
theorem rupL_r (q : xrho) (k i : Nat) (x : Int64) (f y : Nat) : (rupL q k i x).2 f y = if f = k ∧ y = i then x else q.2 f y := by
  by_cases e : f = k
  · subst e
    rw [rupL_i]
    by_cases e2 : y = i
    · rw [if_pos e2, if_pos ⟨rfl, e2⟩]
    · rw [if_neg e2, if_neg (fun h => e2 h.2)]
  · rw [rupL_ne _ _ _ _ e, if_neg (fun h => e h.1)]
def cpF {α : Type} (f g : Nat → α) (a b k : Nat) : Nat → α := fun x => if a ≤ x ∧ x < a + k then g (b + (x - a)) else f x
theorem cpF_0 {α : Type} (f g : Nat → α) (a b : Nat) : cpF f g a b 0 = f := by
  funext x
  unfold cpF
  rw [if_neg (by omega)]
theorem cpF_sx {α : Type} (f g : Nat → α) (a b k x : Nat) : cpF f g a b (k + 1) x = if x = a + k then g (b + k) else cpF f g a b k x := by
  unfold cpF
  by_cases e : x = a + k
  · rw [if_pos e, if_pos ⟨by omega, by omega⟩, e, Nat.add_sub_cancel_left]
  · rw [if_neg e]
    by_cases e2 : a ≤ x ∧ x < a + k
    · rw [if_pos e2, if_pos ⟨e2.1, by omega⟩]
    · rw [if_neg e2, if_neg (by omega)]
theorem cpF_in {α : Type} (f g : Nat → α) (a b : Nat) {k j : Nat} (h : j < k) : cpF f g a b k (a + j) = g (b + j) := by
  unfold cpF
  rw [if_pos ⟨by omega, by omega⟩, Nat.add_sub_cancel_left]
theorem cpF_out {α : Type} (f g : Nat → α) (a b : Nat) {k x : Nat} (h : x < a ∨ a + k ≤ x) : cpF f g a b k x = f x := by
  unfold cpF
  rw [if_neg (by omega)]
def ck3 (i j m : Nat) (q : xrho) (g1 g2 : Nat → Int32) (g3 : Nat → Int64) (a b k : Nat) : xrho := (va_up (va_up q.1 i (cpF (q.1 i) g1 a b k)) j (cpF (q.1 j) g2 a b k), va_up q.2 m (cpF (q.2 m) g3 a b k))
theorem ck3_1 {i j m : Nat} {q : xrho} {g1 g2 : Nat → Int32} {g3 : Nat → Int64} {a b k : Nat} (f : Nat) : (ck3 i j m q g1 g2 g3 a b k).1 f = if f = j then cpF (q.1 j) g2 a b k else if f = i then cpF (q.1 i) g1 a b k else q.1 f := by
  unfold ck3 va_up
  rfl
theorem ck3_2 {i j m : Nat} {q : xrho} {g1 g2 : Nat → Int32} {g3 : Nat → Int64} {a b k : Nat} (f : Nat) : (ck3 i j m q g1 g2 g3 a b k).2 f = if f = m then cpF (q.2 m) g3 a b k else q.2 f := by
  unfold ck3 va_up
  rfl
theorem ck3_ne {i j m : Nat} {q : xrho} {g1 g2 : Nat → Int32} {g3 : Nat → Int64} {a b k f : Nat} (h1 : f ≠ i) (h2 : f ≠ j) : (ck3 i j m q g1 g2 g3 a b k).1 f = q.1 f := by rw [ck3_1, if_neg h2, if_neg h1]
theorem ck3_ne2 {i j m : Nat} {q : xrho} {g1 g2 : Nat → Int32} {g3 : Nat → Int64} {a b k f : Nat} (h1 : f ≠ m) : (ck3 i j m q g1 g2 g3 a b k).2 f = q.2 f := by rw [ck3_2, if_neg h1]
theorem ck3_0 (i j m : Nat) (q : xrho) (g1 g2 : Nat → Int32) (g3 : Nat → Int64) (a b : Nat) : ck3 i j m q g1 g2 g3 a b 0 = q := by
  refine xr_ext (fun f x => ?_) (fun f x => ?_)
  · rw [ck3_1, cpF_0, cpF_0]
    by_cases e : f = j
    · rw [if_pos e, e]
    · rw [if_neg e]
      by_cases e : f = i
      · rw [if_pos e, e]
      · rw [if_neg e]
  · rw [ck3_2, cpF_0]
    by_cases e : f = m
    · rw [if_pos e, e]
    · rw [if_neg e]
theorem ck3_s {i j m : Nat} {q : xrho} {g1 g2 : Nat → Int32} {g3 : Nat → Int64} {a b k : Nat} (hij : i ≠ j) : rup (rupL (rup (ck3 i j m q g1 g2 g3 a b k) i (a + k) (g1 (b + k))) m (a + k) (g3 (b + k))) j (a + k) (g2 (b + k)) = ck3 i j m q g1 g2 g3 a b (k + 1) := by
  refine xr_ext (fun f x => ?_) (fun f x => ?_)
  · rw [rup_r, rupL_1, rup_r, ck3_1, ck3_1]
    by_cases e : f = j
    · subst e
      rw [if_pos rfl, if_pos rfl, cpF_sx]
      by_cases e2 : x = a + k
      · rw [if_pos ⟨rfl, e2⟩, if_pos e2]
      · rw [if_neg (fun h => e2 h.2), if_neg (fun h => e2 h.2), if_neg e2]
    · rw [if_neg (fun h => e h.1), if_neg e, if_neg e]
      by_cases e3 : f = i
      · subst e3
        rw [if_pos rfl, if_pos rfl, cpF_sx]
        by_cases e2 : x = a + k
        · rw [if_pos ⟨rfl, e2⟩, if_pos e2]
        · rw [if_neg (fun h => e2 h.2), if_neg e2]
      · rw [if_neg (fun h => e3 h.1), if_neg e3, if_neg e3]
  · rw [rup_2, rupL_r, rup_2, ck3_2, ck3_2]
    by_cases e : f = m
    · subst e
      rw [if_pos rfl, if_pos rfl, cpF_sx]
      by_cases e2 : x = a + k
      · rw [if_pos ⟨rfl, e2⟩, if_pos e2]
      · rw [if_neg (fun h => e2 h.2), if_neg e2]
    · rw [if_neg (fun h => e h.1), if_neg e, if_neg e]
/-- kept answers in a window of four -/
def PKw (n : Int32) (f g : Nat → Int32) (h : Nat → Int64) (c : Nat) (k : KW) : Prop := n = nI k.length ∧ k.length ≤ 4 ∧ (win (fun x => (f x, h x, g x)) (4 * c) k.length).reverse = k ∧ srt Prod.fst k
theorem PK_w {q : xrho} {c : Nat} {k : KW} : PK q c k ↔ PKw (q.1 34 c) (q.1 35) (q.1 36) (q.2 37) c k := by
  unfold PK PKw keptV
  constructor
  · intro h
    have := nu_of h.1 (by omega)
    rw [this] at h
    exact h
  · intro h
    have := nu_of h.1 (by omega)
    rw [this]
    exact h
theorem PL_w {q : xrho} {c : Nat} {k : KW} : PL q c k ↔ PKw (q.1 78 c) (q.1 79) (q.1 80) (q.2 81) c k := by
  unfold PL PKw lkeptV
  constructor
  · intro h
    have := nu_of h.1 (by omega)
    rw [this] at h
    exact h
  · intro h
    have := nu_of h.1 (by omega)
    rw [this]
    exact h
theorem PKw_c {n n' : Int32} {f f' g g' : Nat → Int32} {h h' : Nat → Int64} {c c' : Nat} {k : KW} (hn : n' = n) (hw : ∀ j, j < 4 → f' (4 * c' + j) = f (4 * c + j) ∧ g' (4 * c' + j) = g (4 * c + j) ∧ h' (4 * c' + j) = h (4 * c + j)) (hP : PKw n f g h c k) : PKw n' f' g' h' c' k := by
  refine ⟨hn.trans hP.1, hP.2.1, ?_, hP.2.2.2⟩
  rw [← hP.2.2.1]
  rw [List.length_reverse, win_len]
  congr 1
  apply List.ext_getElem?
  intro j
  by_cases hj : j < k.length
  · rw [win_get hj, win_get hj, (hw j (by have := hP.2.1; omega)).1, (hw j (by have := hP.2.1; omega)).2.1, (hw j (by have := hP.2.1; omega)).2.2]
  · rw [List.getElem?_eq_none (by rw [win_len]; omega), List.getElem?_eq_none (by rw [win_len]; omega)]
/-- copyKept -/
theorem c_cpk_i {T0 MI B l was c : Nat} {q : xrho} {M : xM} (hl : l < 1200) (hw : was < 1200) (hne : was ≠ l) (hc : c < 6) : ∀ m k, k + m = 4 → ∀ o5 o6, ∃ o4' o5' o6', xZ T0 MI 164 33 [some (vr (some B)), some (vi (nI l)), some (vi (nI was)), some (vi (nI c)), some (vi (nI k)), o5, o6] [] (rput B (ck3 79 80 81 q (q.1 79) (q.1 80) (q.2 81) (4 * (6 * l + c)) (4 * (6 * was + c)) k) M) = xZ T0 MI 164 2 [some (vr (some B)), some (vi (nI l)), some (vi (nI was)), some (vi (nI (c + 1))), o4', o5', o6'] [] (rput B (ck3 79 80 81 q (q.1 79) (q.1 80) (q.2 81) (4 * (6 * l + c)) (4 * (6 * was + c)) 4) M) := by
  intro m
  induction m with
  | zero =>
    intro k hk o5 o6
    have : k = 4 := by omega
    subst this
    exact ⟨some (vi (nI 4)), o5, o6, by simp (decide := true) (disch := omega) only [bq_164_33, bq_164_113, Option.bind_some, xasI, xasL, xasR, xin_t, cond_true, cond_false, nI_clamp, k_0, k_1, k_2, k_3, k_4, k_5, k_6, k_40, k_60, k_500, k_10000, pk_mul, nI_add, nI_e0, nI_ee, nI_leI, nI_ltI, xbool0, xbool1, xbn0, xbn1, xb_0, xb_1, reduceIte, one0, Option.isNone_none, ne_eq, not_true_eq_false, not_false_eq_true, if_true, if_false, ite_not, Bool.true_and, Bool.and_true]⟩
  | succ m ih =>
    intro k hk o5 o6
    have r1 : (ck3 79 80 81 q (q.1 79) (q.1 80) (q.2 81) (4 * (6 * l + c)) (4 * (6 * was + c)) k).1 79 (4 * (6 * was + c) + k) = q.1 79 (4 * (6 * was + c) + k) := by
      rw [ck3_1, if_neg (by decide), if_pos rfl, cpF_out _ _ _ _ (by omega)]
    have r2 : (ck3 79 80 81 q (q.1 79) (q.1 80) (q.2 81) (4 * (6 * l + c)) (4 * (6 * was + c)) k).1 80 (4 * (6 * was + c) + k) = q.1 80 (4 * (6 * was + c) + k) := by
      rw [ck3_1, if_pos rfl, cpF_out _ _ _ _ (by omega)]
    have r3 : (ck3 79 80 81 q (q.1 79) (q.1 80) (q.2 81) (4 * (6 * l + c)) (4 * (6 * was + c)) k).2 81 (4 * (6 * was + c) + k) = q.2 81 (4 * (6 * was + c) + k) := by
      rw [ck3_2, if_pos rfl, cpF_out _ _ _ _ (by omega)]
    obtain ⟨o4', o5', o6', e⟩ := ih (k + 1) (by omega) (some (vi (nI (4 * (6 * l + c) + k)))) (some (vi (nI (4 * (6 * was + c) + k))))
    refine ⟨o4', o5', o6', ?_⟩
    refine Eq.trans ?_ e
    rw [← ck3_s (by decide), ← r1, ← r2, ← r3, bq_164_33, if_neg (show ¬ (Int32.ofInt 4 ≤ nI k) by rw [k_4, nI_leI (by omega) (by omega)]; omega)]
    simp (decide := true) (disch := omega) only [rq_164_39, Option.bind_some, xasI, xasL, xasR, xin_t, cond_true, cond_false, nI_clamp, k_0, k_1, k_2, k_3, k_4, k_5, k_6, k_40, k_60, k_500, k_10000, pk_mul, nI_add, nI_e0, nI_ee, nI_leI, nI_ltI, xbool0, xbool1, xbn0, xbn1, xb_0, xb_1, reduceIte, one0, Option.isNone_none, ne_eq, not_true_eq_false, not_false_eq_true, if_true, if_false, ite_not, Bool.true_and, Bool.and_true]
    rfl
def cpZ (Z : Nat → KW) (l : Nat) (G : Nat → KW) (c : Nat) : Nat → KW := fun x => if 6 * l ≤ x ∧ x < 6 * l + c then G (x - 6 * l) else Z x
theorem cpZ_0 (Z : Nat → KW) (l : Nat) (G : Nat → KW) : cpZ Z l G 0 = Z := by
  funext x
  unfold cpZ
  rw [if_neg (by omega)]
theorem cpZ_s (Z : Nat → KW) (l : Nat) (G : Nat → KW) (c : Nat) : va_up (cpZ Z l G c) (6 * l + c) (G c) = cpZ Z l G (c + 1) := by
  funext x
  unfold va_up
  by_cases e : x = 6 * l + c
  · rw [if_pos e, e]
    unfold cpZ
    rw [if_pos ⟨by omega, by omega⟩, Nat.add_sub_cancel_left]
  · rw [if_neg e]
    unfold cpZ
    by_cases e2 : 6 * l ≤ x ∧ x < 6 * l + c
    · rw [if_pos e2, if_pos ⟨e2.1, by omega⟩]
    · rw [if_neg e2, if_neg (by omega)]
/-- one more window of a letter's kept answers -/
theorem LX_z {q : xrho} {R : Nat → RW} {S : Nat → List Int32} {K Z : Nat → KW} {l c b : Nat} {n : Int32} {g1 g2 : Nat → Int32} {g3 : Nat → Int64} {k : KW} (h : LXok q R S K Z) (hk : PKw n g1 g2 g3 b k) : LXok (ck3 79 80 81 (rup q 78 (6 * l + c) n) g1 g2 g3 (4 * (6 * l + c)) (4 * b) 4) R S K (va_up Z (6 * l + c) k) ∧ fl2 q (ck3 79 80 81 (rup q 78 (6 * l + c) n) g1 g2 g3 (4 * (6 * l + c)) (4 * b) 4) := by
  refine ⟨⟨LA_c h.1 (fun k' hk' => by rcases hk' with e | e | e | e | e | e | e <;> subst e <;> exact ck3_ne (by decide) (by decide)) (ck3_ne2 (by decide)) (ck3_ne2 (by decide)), fun x hx => ?_⟩, ⟨fun k' hk' => ?_, fun k' hk' => ?_⟩⟩
  · rw [PL_w]
    have e78 : (ck3 79 80 81 (rup q 78 (6 * l + c) n) g1 g2 g3 (4 * (6 * l + c)) (4 * b) 4).1 78 x = if x = 6 * l + c then n else q.1 78 x := by
      rw [ck3_ne (by decide) (by decide), rup_i]
    by_cases e : x = 6 * l + c
    · subst e
      rw [va_up_self]
      refine PKw_c (by rw [e78, if_pos rfl]) (fun j hj => ?_) hk
      refine ⟨?_, ?_, ?_⟩
      · rw [ck3_1, if_neg (by decide), if_pos rfl, cpF_in _ _ _ _ hj]
      · rw [ck3_1, if_pos rfl, cpF_in _ _ _ _ hj]
      · rw [ck3_2, if_pos rfl, cpF_in _ _ _ _ hj]
    · rw [va_up_ne _ _ e]
      refine PKw_c (by rw [e78, if_neg e]) (fun j hj => ?_) (PL_w.mp (h.2 x hx))
      refine ⟨?_, ?_, ?_⟩
      · rw [ck3_1, if_neg (by decide), if_pos rfl, cpF_out _ _ _ _ (by omega)]
        rfl
      · rw [ck3_1, if_pos rfl, cpF_out _ _ _ _ (by omega)]
        rfl
      · rw [ck3_2, if_pos rfl, cpF_out _ _ _ _ (by omega)]
        rfl
  · rw [ck3_ne (nf_ne hk' rfl) (nf_ne hk' rfl), rup_ne _ _ _ _ (nf_ne hk' rfl)]
  · rw [ck3_ne2 (nf_ne hk' rfl), rup_2]
theorem c_copyKept_l {T0 MI B l was : Nat} {M : xM} {R : Nat → RW} {S : Nat → List Int32} {K Z : Nat → KW} (hl : l < 1200) (hw : was < 1200) (hne : was ≠ l) : ∀ m c, c + m = 6 → ∀ (q : xrho) (o4 o5 o6 : Option xV), LXok q R S K (cpZ Z l (fun c => Z (6 * was + c)) c) → ∃ q', xZ T0 MI 164 2 [some (vr (some B)), some (vi (nI l)), some (vi (nI was)), some (vi (nI c)), o4, o5, o6] [] (rput B q M) = some (none, rput B q' M) ∧ fl2 q q' ∧ LXok q' R S K (cpZ Z l (fun c => Z (6 * was + c)) 6) := by
  intro m
  induction m with
  | zero =>
    intro c hc q o4 o5 o6 h
    have : c = 6 := by omega
    subst this
    exact ⟨q, by simp (decide := true) (disch := omega) only [bq_164_2, bq_164_119, Option.bind_some, xasI, xasL, xasR, xin_t, cond_true, cond_false, nI_clamp, k_0, k_1, k_2, k_3, k_4, k_5, k_6, k_40, k_60, k_500, k_10000, pk_mul, nI_add, nI_e0, nI_ee, nI_leI, nI_ltI, xbool0, xbool1, xbn0, xbn1, xb_0, xb_1, reduceIte, one0, Option.isNone_none, ne_eq, not_true_eq_false, not_false_eq_true, if_true, if_false, ite_not, Bool.true_and, Bool.and_true], fl2_rf q, h⟩
  | succ m ih =>
    intro c hc q o4 o5 o6 h
    have hs : PKw (q.1 78 (6 * was + c)) (q.1 79) (q.1 80) (q.2 81) (6 * was + c) (Z (6 * was + c)) := by
      have := PL_w.mp (h.2 (6 * was + c) (by omega))
      unfold cpZ at this
      rw [if_neg (by omega)] at this
      exact this
    obtain ⟨l1, f1⟩ := LX_z (l := l) (c := c) h hs
    rw [cpZ_s] at l1
    obtain ⟨o4', o5', o6', e⟩ := c_cpk_i (T0 := T0) (MI := MI) (B := B) (M := M) (q := rup q 78 (6 * l + c) (q.1 78 (6 * was + c))) hl hw hne (c := c) (by omega) 4 0 (by omega) o5 o6
    rw [ck3_0] at e
    obtain ⟨q', e2, f2, l2⟩ := ih (c + 1) (by omega) _ o4' o5' o6' l1
    refine ⟨q', ?_, fl2_tr f1 f2, l2⟩
    rw [← e2]
    refine Eq.trans ?_ e
    simp (decide := true) (disch := omega) only [bq_164_2, rq_164_8, Option.bind_some, xasI, xasL, xasR, xin_t, cond_true, cond_false, nI_clamp, k_0, k_1, k_2, k_3, k_4, k_5, k_6, k_40, k_60, k_500, k_10000, pk_mul, nI_add, nI_e0, nI_ee, nI_leI, nI_ltI, xbool0, xbool1, xbn0, xbn1, xb_0, xb_1, reduceIte, one0, Option.isNone_none, ne_eq, not_true_eq_false, not_false_eq_true, if_true, if_false, ite_not, Bool.true_and, Bool.and_true]
    rw [if_neg (by omega)]
theorem c_copyKept {T0 MI B l was : Nat} {q : xrho} {M : xM} {R : Nat → RW} {S : Nat → List Int32} {K Z : Nat → KW} {o3 o4 o5 o6 : Option xV} (h : LXok q R S K Z) (hl : l < 1200) (hw : was < 1200) (hne : was ≠ l) : ∃ q', xZ T0 MI 164 0 [some (vr (some B)), some (vi (nI l)), some (vi (nI was)), o3, o4, o5, o6] [] (rput B q M) = some (none, rput B q' M) ∧ fl2 q q' ∧ LXok q' R S K (cpZ Z l (fun c => Z (6 * was + c)) 6) := by
  obtain ⟨q', e, f, l'⟩ := c_copyKept_l (T0 := T0) (MI := MI) (B := B) (M := M) (R := R) (S := S) (K := K) (Z := Z) hl hw hne 6 0 (by omega) q o4 o5 o6 (by rw [cpZ_0]; exact h)
  exact ⟨q', by rw [bq_164_0]; exact e, f, l'⟩
