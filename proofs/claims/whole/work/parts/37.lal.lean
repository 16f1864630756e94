/-! THE LISTS OF ALL PLACES: R rows, S keys to send, K kept answers (by 6 p + caller) -/
def PR (q : xrho) (p : Nat) (l : RW) : Prop := q.1 19 p = nI l.length ∧ l.length ≤ 60 ∧ rowsV q p = l ∧ srt Prod.fst l
def PS (q : xrho) (p : Nat) (s : List Int32) : Prop := q.1 25 p = nI s.length ∧ s.length < 500 ∧ sendV q p = s ∧ srt id s
def PK (q : xrho) (c : Nat) (k : KW) : Prop := q.1 34 c = nI k.length ∧ k.length ≤ 4 ∧ keptV q c = k ∧ srt Prod.fst k
def LAok (q : xrho) (R : Nat → RW) (S : Nat → List Int32) (K : Nat → KW) : Prop := (∀ p, p < 240 → PR q p (R p)) ∧ (∀ p, p < 240 → PS q p (S p)) ∧ ∀ c, c < 1440 → PK q c (K c)
/-- all but the lists of places -/
def flat (q q' : xrho) : Prop := (∀ k, k ≠ 19 → k ≠ 20 → k ≠ 25 → k ≠ 26 → k ≠ 34 → k ≠ 35 → k ≠ 36 → q'.1 k = q.1 k) ∧ ∀ k, k ≠ 27 → k ≠ 37 → q'.2 k = q.2 k
theorem flat_rf (q : xrho) : flat q q := ⟨fun _ _ _ _ _ _ _ _ => rfl, fun _ _ _ => rfl⟩
theorem flat_tr {a b c : xrho} (h : flat a b) (h2 : flat b c) : flat a c := ⟨fun k a1 a2 a3 a4 a5 a6 a7 => (h2.1 k a1 a2 a3 a4 a5 a6 a7).trans (h.1 k a1 a2 a3 a4 a5 a6 a7), fun k a1 a2 => (h2.2 k a1 a2).trans (h.2 k a1 a2)⟩
theorem flat_up {a b : xrho} (h : flat a b) (k i : Nat) (x : Int32) : flat (rup a k i x) (rup b k i x) := by
  refine ⟨fun k' a1 a2 a3 a4 a5 a6 a7 => ?_, h.2⟩
  unfold rup
  dsimp only
  by_cases e : k' = k
  · subst e
    rw [va_up_self, va_up_self, h.1 _ a1 a2 a3 a4 a5 a6 a7]
  · rw [va_up_ne _ _ e, va_up_ne _ _ e]
    exact h.1 _ a1 a2 a3 a4 a5 a6 a7
theorem flat_upL {a b : xrho} (h : flat a b) (k i : Nat) (x : Int64) : flat (rupL a k i x) (rupL b k i x) := by
  refine ⟨h.1, fun k' a1 a2 => ?_⟩
  unfold rupL
  dsimp only
  by_cases e : k' = k
  · subst e
    rw [va_up_self, va_up_self, h.2 _ a1 a2]
  · rw [va_up_ne _ _ e, va_up_ne _ _ e]
    exact h.2 _ a1 a2
theorem PR_nu {q : xrho} {p : Nat} {l : RW} (h : PR q p l) : nu q 19 p = l.length := nu_of h.1 (by have := h.2.1; omega)
theorem PS_nu {q : xrho} {p : Nat} {l : List Int32} (h : PS q p l) : nu q 25 p = l.length := nu_of h.1 (by have := h.2.1; omega)
theorem PK_nu {q : xrho} {c : Nat} {l : KW} (h : PK q c l) : nu q 34 c = l.length := nu_of h.1 (by have := h.2.1; omega)
theorem PR_c {q q' : xrho} {p : Nat} {l : RW} (h : PR q p l) (h1 : q'.1 19 p = q.1 19 p) (h2 : ∀ j, j < 60 → q'.1 20 (60 * p + j) = q.1 20 (60 * p + j) ∧ q'.2 27 (60 * p + j) = q.2 27 (60 * p + j)) : PR q' p l := ⟨h1.trans h.1, h.2.1, (rowsV_congr h1 h2 (by rw [PR_nu h]; exact h.2.1)).trans h.2.2.1, h.2.2.2⟩
theorem PS_c {q q' : xrho} {p : Nat} {l : List Int32} (h : PS q p l) (h1 : q'.1 25 p = q.1 25 p) (h2 : ∀ j, j < 500 → q'.1 26 (500 * p + j) = q.1 26 (500 * p + j)) : PS q' p l := ⟨h1.trans h.1, h.2.1, (sendV_congr h1 h2 (by rw [PS_nu h]; have := h.2.1; omega)).trans h.2.2.1, h.2.2.2⟩
theorem PK_c {q q' : xrho} {c : Nat} {l : KW} (h : PK q c l) (h1 : q'.1 34 c = q.1 34 c) (h2 : ∀ j, j < 4 → q'.1 35 (4 * c + j) = q.1 35 (4 * c + j) ∧ q'.2 37 (4 * c + j) = q.2 37 (4 * c + j) ∧ q'.1 36 (4 * c + j) = q.1 36 (4 * c + j)) : PK q' c l := ⟨h1.trans h.1, h.2.1, (keptV_congr h1 h2 (by rw [PK_nu h]; exact h.2.1)).trans h.2.2.1, h.2.2.2⟩
/-- the lists stay where their fields stay -/
theorem LA_c {q q' : xrho} {R : Nat → RW} {S : Nat → List Int32} {K : Nat → KW} (h : LAok q R S K) (h1 : ∀ k, k = 19 ∨ k = 20 ∨ k = 25 ∨ k = 26 ∨ k = 34 ∨ k = 35 ∨ k = 36 → q'.1 k = q.1 k) (h2 : q'.2 27 = q.2 27) (h3 : q'.2 37 = q.2 37) : LAok q' R S K := by
  refine ⟨fun p hp => PR_c (h.1 p hp) (by rw [h1 19 (by simp)]) (fun j _ => ⟨by rw [h1 20 (by simp)], by rw [h2]⟩), fun p hp => PS_c (h.2.1 p hp) (by rw [h1 25 (by simp)]) (fun j _ => by rw [h1 26 (by simp)]), fun c hc => PK_c (h.2.2 c hc) (by rw [h1 34 (by simp)]) (fun j _ => ⟨by rw [h1 35 (by simp)], by rw [h3], by rw [h1 36 (by simp)]⟩)⟩
theorem glay_LA {q : xrho} {R : Nat → RW} {S : Nat → List Int32} {K : Nat → KW} {p : Nat} {key : Int32} {v : Int64} (h : LAok q R S K) (hp : p < 240) : flat q (glay q p (R p).length key v).2 ∧ LAok (glay q p (R p).length key v).2 (va_up R p (putL (R p) key v).2) S K ∧ (glay q p (R p).length key v).1 = (putL (R p) key v).1 := by
  obtain ⟨r1, r2, r3, r4⟩ := h.1 p hp
  obtain ⟨g1, g2, g3⟩ := glay_spec (key := key) (v := v) r2 r1 (by rw [r3]; exact r4)
  rw [r3] at g1 g2 g3
  refine ⟨⟨fun k a1 a2 _ _ _ _ _ => glay_ne a1 a2, fun k a1 _ => glay_neL a1⟩, ⟨fun p' hp' => ?_, fun p' hp' => ?_, fun c hc => ?_⟩, g1⟩
  · by_cases e : p' = p
    · subst e
      rw [va_up_self]
      exact ⟨g2, putL_len r2, g3, putL_srt r4⟩
    · rw [va_up_ne _ _ e]
      exact PR_c (h.1 p' hp') (glay_at r2 e).1 (glay_at r2 e).2
  · exact PS_c (h.2.1 p' hp') (by rw [glay_ne (by decide) (by decide)]) (fun j _ => by rw [glay_ne (by decide) (by decide)])
  · exact PK_c (h.2.2 c hc) (by rw [glay_ne (by decide) (by decide)]) (fun j _ => ⟨by rw [glay_ne (by decide) (by decide)], by rw [glay_neL (by decide)], by rw [glay_ne (by decide) (by decide)]⟩)
theorem dropK_len {α : Type} {k : α → Int32} {key : Int32} {l : List α} : (dropK k key l).length ≤ l.length := List.length_filter_le _ _
theorem gstrike_LA {q : xrho} {R : Nat → RW} {S : Nat → List Int32} {K : Nat → KW} {p : Nat} {key : Int32} (h : LAok q R S K) (hp : p < 240) : flat q (gstrike q p (R p).length key) ∧ LAok (gstrike q p (R p).length key) (va_up R p (dropK Prod.fst key (R p))) S K := by
  obtain ⟨r1, r2, r3, r4⟩ := h.1 p hp
  obtain ⟨g2, g3⟩ := gstrike_spec (key := key) r2 r1 (by rw [r3]; exact r4)
  rw [r3] at g2 g3
  refine ⟨⟨fun k a1 a2 _ _ _ _ _ => gstrike_ne a1 a2, fun k a1 _ => gstrike_neL a1⟩, ⟨fun p' hp' => ?_, fun p' hp' => ?_, fun c hc => ?_⟩⟩
  · by_cases e : p' = p
    · subst e
      rw [va_up_self]
      exact ⟨g2, Nat.le_trans dropK_len r2, g3, dropK_srt r4⟩
    · rw [va_up_ne _ _ e]
      exact PR_c (h.1 p' hp') (gstrike_at r2 e).1 (gstrike_at r2 e).2
  · exact PS_c (h.2.1 p' hp') (by rw [gstrike_ne (by decide) (by decide)]) (fun j _ => by rw [gstrike_ne (by decide) (by decide)])
  · exact PK_c (h.2.2 c hc) (by rw [gstrike_ne (by decide) (by decide)]) (fun j _ => ⟨by rw [gstrike_ne (by decide) (by decide)], by rw [gstrike_neL (by decide)], by rw [gstrike_ne (by decide) (by decide)]⟩)
theorem addK_len {l : List Int32} {key : Int32} : (addK l key).length ≤ l.length + 1 := by
  unfold addK
  split
  · omega
  · rw [insR_len]; exact Nat.le_refl _
theorem gowes_2 (q : xrho) (p n : Nat) (key : Int32) : (gowes q p n key).2 = q.2 := by
  unfold gowes
  split <;> rfl
theorem gowes_LA {q : xrho} {R : Nat → RW} {S : Nat → List Int32} {K : Nat → KW} {p : Nat} {key : Int32} (h : LAok q R S K) (hp : p < 240) (hb : (addK (S p) key).length < 500) : flat q (gowes q p (S p).length key) ∧ LAok (gowes q p (S p).length key) R (va_up S p (addK (S p) key)) K := by
  obtain ⟨r1, r2, r3, r4⟩ := h.2.1 p hp
  obtain ⟨g2, g3⟩ := gowes_spec (key := key) r2 r1 (by rw [r3]; exact r4)
  rw [r3] at g2 g3
  refine ⟨⟨fun k _ _ a1 a2 _ _ _ => gowes_ne _ _ _ _ a1 a2, fun k _ _ => by rw [gowes_2]⟩, ⟨fun p' hp' => ?_, fun p' hp' => ?_, fun c hc => ?_⟩⟩
  · exact PR_c (h.1 p' hp') (by rw [gowes_ne _ _ _ _ (by decide) (by decide)]) (fun j _ => ⟨by rw [gowes_ne _ _ _ _ (by decide) (by decide)], by rw [gowes_2]⟩)
  · by_cases e : p' = p
    · subst e
      rw [va_up_self]
      exact ⟨g2, hb, g3, addK_srt r4⟩
    · rw [va_up_ne _ _ e]
      exact PS_c (h.2.1 p' hp') (gowes_at r2 e).1 (gowes_at r2 e).2
  · exact PK_c (h.2.2 c hc) (by rw [gowes_ne _ _ _ _ (by decide) (by decide)]) (fun j _ => ⟨by rw [gowes_ne _ _ _ _ (by decide) (by decide)], by rw [gowes_2], by rw [gowes_ne _ _ _ _ (by decide) (by decide)]⟩)
theorem gkeep_neL {q : xrho} {c n : Nat} {count : Int32} {v : Int64} {sign : Int32} {k : Nat} (h : k ≠ 37) : (gkeep q c n count v sign).2 k = q.2 k := by
  have hk : ∀ (q : xrho) s pos, (keepq q c s pos count v sign).2 k = q.2 k := by
    intro q s pos
    unfold keepq
    rw [rup_2, rupL_ne _ _ _ _ h, rup_2]
    exact va_up_ne _ _ h
  unfold gkeep
  split
  · rfl
  · split
    · rfl
    · split
      · exact hk _ _ _
      · exact hk _ _ _
theorem gkeep_LA {q : xrho} {R : Nat → RW} {S : Nat → List Int32} {K : Nat → KW} {c : Nat} {count : Int32} {v : Int64} {sign : Int32} (h : LAok q R S K) (hc : c < 1440) : flat q (gkeep q c (K c).length count v sign) ∧ LAok (gkeep q c (K c).length count v sign) R S (va_up K c (keepL (K c) (count, v, sign))) := by
  obtain ⟨r1, r2, r3, r4⟩ := h.2.2 c hc
  obtain ⟨g2, g3⟩ := gkeep_spec (count := count) (v := v) (sign := sign) r2 r1 (by rw [r3]; exact r4)
  rw [r3] at g2 g3
  refine ⟨⟨fun k _ _ _ _ a1 a2 a3 => gkeep_ne _ _ _ _ _ _ a1 a2 a3, fun k _ a1 => gkeep_neL a1⟩, ⟨fun p' hp' => ?_, fun p' hp' => ?_, fun c' hc' => ?_⟩⟩
  · exact PR_c (h.1 p' hp') (by rw [gkeep_ne _ _ _ _ _ _ (by decide) (by decide) (by decide)]) (fun j _ => ⟨by rw [gkeep_ne _ _ _ _ _ _ (by decide) (by decide) (by decide)], by rw [gkeep_neL (by decide)]⟩)
  · exact PS_c (h.2.1 p' hp') (by rw [gkeep_ne _ _ _ _ _ _ (by decide) (by decide) (by decide)]) (fun j _ => by rw [gkeep_ne _ _ _ _ _ _ (by decide) (by decide) (by decide)])
  · by_cases e : c' = c
    · subst e
      rw [va_up_self]
      exact ⟨g2, keepL_len r2, g3, keepL_srt r4⟩
    · rw [va_up_ne _ _ e]
      exact PK_c (h.2.2 c' hc') (gkeep_at r2 e).1 (gkeep_at r2 e).2
/-- nothingKept -/
def clrK (K : Nat → KW) (p : Nat) : Nat → KW := fun c => if 6 * p ≤ c ∧ c < 6 * p + 6 then [] else K c
theorem nkS_LA {q : xrho} {R : Nat → RW} {S : Nat → List Int32} {K : Nat → KW} {p : Nat} (h : LAok q R S K) : flat q (nkS q p 6) ∧ LAok (nkS q p 6) R S (clrK K p) := by
  have ne : ∀ k, k ≠ 34 → (nkS q p 6).1 k = q.1 k := fun k hk => va_up_ne _ _ hk
  have at34 : ∀ x, (nkS q p 6).1 34 x = if 6 * p ≤ x ∧ x < 6 * p + 6 then nI 0 else q.1 34 x := by
    intro x
    unfold nkS
    dsimp only
    rw [va_up_self]
  refine ⟨⟨fun k _ _ _ _ a1 _ _ => ne k a1, fun _ _ _ => rfl⟩, ⟨fun p' hp' => ?_, fun p' hp' => ?_, fun c hc => ?_⟩⟩
  · exact PR_c (h.1 p' hp') (by rw [ne _ (by decide)]) (fun j _ => ⟨by rw [ne _ (by decide)], rfl⟩)
  · exact PS_c (h.2.1 p' hp') (by rw [ne _ (by decide)]) (fun j _ => by rw [ne _ (by decide)])
  · unfold clrK
    by_cases e : 6 * p ≤ c ∧ c < 6 * p + 6
    · rw [if_pos e]
      have e2 : (nkS q p 6).1 34 c = nI 0 := by rw [at34, if_pos e]
      refine ⟨e2, by simp, ?_, by simp [srt]⟩
      unfold keptV
      rw [nu_of e2 (by decide)]
      rfl
    · rw [if_neg e]
      exact PK_c (h.2.2 c hc) (by rw [at34, if_neg e]) (fun j _ => ⟨by rw [ne _ (by decide)], rfl, by rw [ne _ (by decide)]⟩)
/-! owesAll, keepAll, as folds -/
theorem nS_LA {q : xrho} {R : Nat → RW} {S : Nat → List Int32} {K : Nat → KW} {p : Nat} (h : LAok q R S K) (hp : p < 240) : nS q p = (S p).length := PS_nu (h.2.1 p hp)
theorem foldl_addK_len : ∀ (ks s : List Int32), (ks.foldl addK s).length ≤ s.length + ks.length
  | [], s => by simp
  | k :: ks, s => by
    have := foldl_addK_len ks (addK s k)
    have := addK_len (l := s) (key := k)
    simp only [List.foldl_cons, List.length_cons]
    omega
theorem goA_LA {R : Nat → RW} {K : Nat → KW} {p : Nat} (hp : p < 240) : ∀ m k, k + m = (R p).length → ∀ (q : xrho) (S : Nat → List Int32), LAok q R S K → (S p).length + m ≤ 499 → flat q (goA p k m q) ∧ LAok (goA p k m q) R (va_up S p ((((R p).drop k).map Prod.fst).foldl addK (S p))) K := by
  intro m
  induction m with
  | zero =>
    intro k hk q S h hb
    unfold goA
    rw [List.drop_eq_nil_of_le (by omega)]
    refine ⟨flat_rf q, ?_⟩
    rw [List.map_nil, List.foldl_nil, va_up_id]
    exact h
  | succ m ih =>
    intro k hk q S h hb
    obtain ⟨r1, r2, r3, r4⟩ := h.1 p hp
    have e : (R p)[k]? = some (q.1 20 (60 * p + k), q.2 27 (60 * p + k)) := by
      rw [← r3]
      exact win_get (by rw [PR_nu (h.1 p hp)]; omega)
    obtain ⟨hk2, e2⟩ := List.getElem?_eq_some_iff.mp e
    have e3 : (R p).drop k = (q.1 20 (60 * p + k), q.2 27 (60 * p + k)) :: (R p).drop (k + 1) := by
      rw [List.drop_eq_getElem_cons hk2, e2]
    have ha := addK_len (l := S p) (key := q.1 20 (60 * p + k))
    obtain ⟨f1, l1⟩ := gowes_LA (key := q.1 20 (60 * p + k)) h hp (by omega)
    obtain ⟨f2, l2⟩ := ih (k + 1) (by omega) _ _ l1 (by rw [va_up_self]; omega)
    unfold goA
    rw [nS_LA h hp]
    refine ⟨flat_tr f1 f2, ?_⟩
    rw [va_up_self, va_up_up] at l2
    rw [e3]
    exact l2
theorem c_owesAllL {T0 MI B p : Nat} {q : xrho} {R : Nat → RW} {S : Nat → List Int32} {K : Nat → KW} {o2 : Option xV} {M : xM} (h : LAok q R S K) (hp : p < 240) : ∃ q', xZ T0 MI 135 0 [some (vr (some B)), some (vi (nI p)), o2] [] (rput B q M) = some (none, rput B q' M) ∧ flat q q' ∧ LAok q' R (va_up S p (((R p).map Prod.fst).foldl addK [])) K := by
  refine ⟨_, c_owesAll hp (h.1 p hp).2.1 (h.1 p hp).1, ?_⟩
  have l0 : LAok (rup q 25 p (nI 0)) R (va_up S p []) K := by
    refine ⟨fun p' hp' => PR_c (h.1 p' hp') rfl (fun j _ => ⟨rfl, rfl⟩), fun p' hp' => ?_, fun c hc => PK_c (h.2.2 c hc) rfl (fun j _ => ⟨rfl, rfl, rfl⟩)⟩
    by_cases e : p' = p
    · subst e
      rw [va_up_self]
      refine ⟨by rw [rup_at]; rfl, by simp, ?_, by simp [srt]⟩
      unfold sendV
      rw [nu_of (rup_at _ _ _ _) (by decide)]
      rfl
    · rw [va_up_ne _ _ e]
      exact PS_c (h.2.1 p' hp') (by rw [rup_i, if_neg e]) (fun j _ => rfl)
  have b := (h.1 p hp).2.1
  obtain ⟨f1, l1⟩ := goA_LA hp (R p).length 0 (by omega) _ _ l0 (by rw [va_up_self]; simp; omega)
  rw [va_up_self, va_up_up] at l1
  exact ⟨⟨fun k a1 a2 a3 a4 a5 a6 a7 => (f1.1 k a1 a2 a3 a4 a5 a6 a7).trans (rup_ne _ _ _ _ a3), f1.2⟩, l1⟩
theorem gkA_LA {R : Nat → RW} {S : Nat → List Int32} {p f c : Nat} {L : KW} (hp : p < 240) (hf : f < 240) (hpf : p ≠ f) (hc : c < 6) : ∀ m k, k + m = L.length → ∀ (q : xrho) (K : Nat → KW), LAok q R S K → K (6 * f + c) = L → flat q (gkA p f c k m q) ∧ LAok (gkA p f c k m q) R S (va_up K (6 * p + c) ((L.reverse.drop k).foldl keepL (K (6 * p + c)))) := by
  intro m
  induction m with
  | zero =>
    intro k hk q K h hL
    unfold gkA
    rw [List.drop_eq_nil_of_le (by rw [List.length_reverse]; omega)]
    refine ⟨flat_rf q, ?_⟩
    rw [List.foldl_nil, va_up_id]
    exact h
  | succ m ih =>
    intro k hk q K h hL
    obtain ⟨r1, r2, r3, r4⟩ := h.2.2 (6 * f + c) (by omega)
    have e : L.reverse[k]? = some (q.1 35 (4 * (6 * f + c) + k), q.2 37 (4 * (6 * f + c) + k), q.1 36 (4 * (6 * f + c) + k)) := by
      rw [← hL, ← r3]
      unfold keptV
      rw [List.reverse_reverse]
      exact win_get (by rw [PK_nu (h.2.2 (6 * f + c) (by omega)), hL]; omega)
    obtain ⟨hk2, e2⟩ := List.getElem?_eq_some_iff.mp e
    have e3 : L.reverse.drop k = (q.1 35 (4 * (6 * f + c) + k), q.2 37 (4 * (6 * f + c) + k), q.1 36 (4 * (6 * f + c) + k)) :: L.reverse.drop (k + 1) := by
      rw [List.drop_eq_getElem_cons hk2, e2]
    obtain ⟨f1, l1⟩ := gkeep_LA (c := 6 * p + c) (count := q.1 35 (4 * (6 * f + c) + k)) (v := q.2 37 (4 * (6 * f + c) + k)) (sign := q.1 36 (4 * (6 * f + c) + k)) h (by omega)
    obtain ⟨f2, l2⟩ := ih (k + 1) (by omega) _ _ l1 (by rw [va_up_ne _ _ (by omega)]; exact hL)
    unfold gkA
    rw [show nK q (6 * p + c) = (K (6 * p + c)).length from PK_nu (h.2.2 _ (by omega))]
    refine ⟨flat_tr f1 f2, ?_⟩
    rw [va_up_self, va_up_up] at l2
    rw [e3]
    exact l2
def joinK (K : Nat → KW) (p f m : Nat) : Nat → KW := fun x => if 6 * p ≤ x ∧ x < 6 * p + m then (K (6 * f + (x - 6 * p))).reverse.foldl keepL (K x) else K x
theorem gkB_LA {R : Nat → RW} {S : Nat → List Int32} {K0 : Nat → KW} {p f : Nat} (hp : p < 240) (hf : f < 240) (hpf : p ≠ f) : ∀ m c, c + m = 6 → ∀ q : xrho, LAok q R S (joinK K0 p f c) → flat q (gkB p f c m q) ∧ LAok (gkB p f c m q) R S (joinK K0 p f 6) := by
  intro m
  induction m with
  | zero =>
    intro c hc q h
    have : c = 6 := by omega
    subst this
    exact ⟨flat_rf q, h⟩
  | succ m ih =>
    intro c hc q h
    have hK : joinK K0 p f c (6 * f + c) = K0 (6 * f + c) := by
      unfold joinK
      rw [if_neg (by omega)]
    have hK2 : joinK K0 p f c (6 * p + c) = K0 (6 * p + c) := by
      unfold joinK
      rw [if_neg (by omega)]
    obtain ⟨f1, l1⟩ := gkA_LA (L := K0 (6 * f + c)) hp hf hpf (c := c) (by omega) (K0 (6 * f + c)).length 0 (by omega) q _ h hK
    have e : va_up (joinK K0 p f c) (6 * p + c) (((K0 (6 * f + c)).reverse.drop 0).foldl keepL (joinK K0 p f c (6 * p + c))) = joinK K0 p f (c + 1) := by
      funext x
      unfold va_up
      rw [hK2, List.drop_zero]
      by_cases ex : x = 6 * p + c
      · rw [if_pos ex, ex]
        unfold joinK
        rw [if_pos ⟨by omega, by omega⟩, show 6 * p + c - 6 * p = c by omega]
      · rw [if_neg ex]
        unfold joinK
        by_cases e2 : 6 * p ≤ x ∧ x < 6 * p + c
        · rw [if_pos e2, if_pos ⟨e2.1, by omega⟩]
        · rw [if_neg e2, if_neg (by omega)]
    rw [e] at l1
    obtain ⟨f2, l2⟩ := ih (c + 1) (by omega) _ l1
    unfold gkB
    rw [show nK q (6 * f + c) = (K0 (6 * f + c)).length by rw [← hK]; exact PK_nu (h.2.2 _ (by omega))]
    exact ⟨flat_tr f1 f2, l2⟩
theorem PK_ok {q : xrho} {c : Nat} {k : KW} (h : PK q c k) : okK q c := (okK_of h.1 h.2.1).1
theorem c_keepAllL {T0 MI B p f : Nat} {q : xrho} {R : Nat → RW} {S : Nat → List Int32} {K : Nat → KW} {o3 o4 o5 : Option xV} {M : xM} (h : LAok q R S K) (hp : p < 240) (hf : f < 240) (hpf : p ≠ f) : ∃ q', xZ T0 MI 139 0 [some (vr (some B)), some (vi (nI p)), some (vi (nI f)), o3, o4, o5] [] (rput B q M) = some (none, rput B q' M) ∧ flat q q' ∧ LAok q' R S (joinK K p f 6) := by
  refine ⟨_, c_keepAll hp hf hpf (fun c hc => PK_ok (h.2.2 _ (by omega))) (fun c hc => PK_ok (h.2.2 _ (by omega))), ?_⟩
  have e : joinK K p f 0 = K := by
    funext x
    unfold joinK
    rw [if_neg (by omega)]
  exact gkB_LA hp hf hpf 6 0 (by omega) q (by rw [e]; exact h)
