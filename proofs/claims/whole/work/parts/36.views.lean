/-! VIEWS OF THE REFERENCE'S CONTENTS: rows, keys to send, kept answers (the least count first), as lists -/
abbrev RW : Type := List (Int32 × Int64)
abbrev KW : Type := List (Int32 × Int64 × Int32)
def rowsV (q : xrho) (p : Nat) : RW := win (fun x => (q.1 20 x, q.2 27 x)) (60 * p) (nu q 19 p)
def sendV (q : xrho) (p : Nat) : List Int32 := win (q.1 26) (500 * p) (nu q 25 p)
def keptV (q : xrho) (c : Nat) : KW := (win (fun x => (q.1 35 x, q.2 37 x, q.1 36 x)) (4 * c) (nu q 34 c)).reverse
def lkeptV (q : xrho) (c : Nat) : KW := (win (fun x => (q.1 79 x, q.2 81 x, q.1 80 x)) (4 * c) (nu q 78 c)).reverse
def parcV (q : xrho) (l n : Nat) : List (Int32 × Int32 × Int64) := win (fun x => (q.1 74 x, q.1 76 x, q.2 77 x)) (3 * l) n
theorem rowsV_len (q : xrho) (p : Nat) : (rowsV q p).length = nu q 19 p := win_len _ _ _
theorem sendV_len (q : xrho) (p : Nat) : (sendV q p).length = nu q 25 p := win_len _ _ _
theorem keptV_len (q : xrho) (c : Nat) : (keptV q c).length = nu q 34 c := by
  unfold keptV
  rw [List.length_reverse, win_len]
theorem rowsV_congr {q q' : xrho} {p : Nat} (h1 : q'.1 19 p = q.1 19 p) (h2 : ∀ j, j < 60 → q'.1 20 (60 * p + j) = q.1 20 (60 * p + j) ∧ q'.2 27 (60 * p + j) = q.2 27 (60 * p + j)) (hn : nu q 19 p ≤ 60) : rowsV q' p = rowsV q p := by
  unfold rowsV
  have : nu q' 19 p = nu q 19 p := by unfold nu; rw [h1]
  rw [this]
  apply win_congr
  intro j hj
  obtain ⟨a, b⟩ := h2 j (by omega)
  rw [a, b]
theorem sendV_congr {q q' : xrho} {p : Nat} (h1 : q'.1 25 p = q.1 25 p) (h2 : ∀ j, j < 500 → q'.1 26 (500 * p + j) = q.1 26 (500 * p + j)) (hn : nu q 25 p ≤ 500) : sendV q' p = sendV q p := by
  unfold sendV
  have : nu q' 25 p = nu q 25 p := by unfold nu; rw [h1]
  rw [this]
  apply win_congr
  intro j hj
  exact h2 j (by omega)
theorem keptV_congr {q q' : xrho} {c : Nat} (h1 : q'.1 34 c = q.1 34 c) (h2 : ∀ j, j < 4 → q'.1 35 (4 * c + j) = q.1 35 (4 * c + j) ∧ q'.2 37 (4 * c + j) = q.2 37 (4 * c + j) ∧ q'.1 36 (4 * c + j) = q.1 36 (4 * c + j)) (hn : nu q 34 c ≤ 4) : keptV q' c = keptV q c := by
  unfold keptV
  have : nu q' 34 c = nu q 34 c := by unfold nu; rw [h1]
  rw [this]
  congr 1
  apply win_congr
  intro j hj
  obtain ⟨a, b, d⟩ := h2 j (by omega)
  rw [a, b, d]
theorem rup_i (q : xrho) (k i : Nat) (x : Int32) (j : Nat) : (rup q k i x).1 k j = if j = i then x else q.1 k j := by
  unfold rup
  dsimp only
  rw [va_up_self]
  rfl
theorem rupL_i (q : xrho) (k i : Nat) (x : Int64) (j : Nat) : (rupL q k i x).2 k j = if j = i then x else q.2 k j := by
  unfold rupL
  dsimp only
  rw [va_up_self]
  rfl
theorem layq_19 (q : xrho) (p n pos : Nat) (key : Int32) (v : Int64) (x : Nat) : (layq q p n pos key v).1 19 x = if x = p then nI (n + 1) else q.1 19 x := by
  unfold layq
  rw [rup_i, rupL_1, rup_ne _ _ _ _ (by decide), lsh_19]
theorem layq_20 (q : xrho) (p n pos : Nat) (key : Int32) (v : Int64) (x : Nat) : (layq q p n pos key v).1 20 x = if x = 60 * p + pos then key else insK (q.1 20) (60 * p) pos n x := by
  unfold layq
  rw [rup_ne _ _ _ _ (by decide), rupL_1, rup_i]
  congr 1
theorem layq_27 (q : xrho) (p n pos : Nat) (key : Int32) (v : Int64) (x : Nat) : (layq q p n pos key v).2 27 x = if x = 60 * p + pos then v else insK (q.2 27) (60 * p) pos n x := by
  unfold layq
  rw [rup_2, rupL_i, rup_2]
  congr 1
theorem layq_ne (q : xrho) (p n pos : Nat) (key : Int32) (v : Int64) {k : Nat} (h1 : k ≠ 19) (h2 : k ≠ 20) : (layq q p n pos key v).1 k = q.1 k := by
  unfold layq
  rw [rup_ne _ _ _ _ h1, rupL_1, rup_ne _ _ _ _ h2]
  exact va_up_ne _ _ h2
theorem layq_neL (q : xrho) (p n pos : Nat) (key : Int32) (v : Int64) {k : Nat} (h1 : k ≠ 27) : (layq q p n pos key v).2 k = q.2 k := by
  unfold layq
  rw [rup_2, rupL_ne _ _ _ _ h1, rup_2]
  exact va_up_ne _ _ h1
theorem glay_spec {q : xrho} {p n : Nat} {key : Int32} {v : Int64} (hn : n ≤ 60) (hq : q.1 19 p = nI n) (hs : srt Prod.fst (rowsV q p)) : (glay q p n key v).1 = (putL (rowsV q p) key v).1 ∧ (glay q p n key v).2.1 19 p = nI (putL (rowsV q p) key v).2.length ∧ rowsV (glay q p n key v).2 p = (putL (rowsV q p) key v).2 := by
  have hnu : nu q 19 p = n := nu_of hq (by omega)
  have hw : rowsV q p = win (fun x => (q.1 20 x, q.2 27 x)) (60 * p) n := by unfold rowsV; rw [hnu]
  have hl := rfnd_lkp (k := (Prod.fst : Int32 × Int64 → Int32)) (f := fun x => (q.1 20 x, q.2 27 x)) (b := 60 * p) (key := key) (m := n) (i := 0)
  rw [Nat.add_zero, ← hw] at hl
  unfold glay putL
  cases hf : rfnd (fun j => q.1 20 (60 * p + j)) key 0 n with
  | some j =>
    have hf' : rfnd (fun j => ((fun x => (q.1 20 x, q.2 27 x)) (60 * p + j)).1) key 0 n = some j := hf
    rw [hf'] at hl
    obtain ⟨-, hj, hk⟩ := rfnd_lt hf
    rw [← hl]
    have hw2 : rowsV (rupL q 27 (60 * p + j) v) p = setK Prod.fst (key, v) (rowsV q p) := by
      rw [hw, ← win_setK (k := Prod.fst) (f := fun x => (q.1 20 x, q.2 27 x)) (j := j) (x := (key, v)) (by omega) hk (by rw [← hw]; exact hs)]
      unfold rowsV
      rw [show nu (rupL q 27 (60 * p + j) v) 19 p = n from hnu]
      congr 1
      funext x
      rw [rupL_i, rupL_1]
      by_cases e : x = 60 * p + j
      · rw [if_pos e, if_pos e, e]
        congr 1
      · rw [if_neg e, if_neg e]
    refine ⟨rfl, ?_, hw2⟩
    show q.1 19 p = nI (setK Prod.fst (key, v) (rowsV q p)).length
    rw [setK_len, rowsV_len, hnu, hq]
  | none =>
    have hf' : rfnd (fun j => ((fun x => (q.1 20 x, q.2 27 x)) (60 * p + j)).1) key 0 n = none := hf
    rw [hf'] at hl
    rw [← hl]
    dsimp only [Option.map_none]
    rw [rowsV_len, hnu]
    by_cases h : n = 60
    · rw [if_pos h, if_pos h]
      exact ⟨rfl, by show q.1 19 p = nI (rowsV q p).length; rw [rowsV_len, hnu, hq], rfl⟩
    · rw [if_neg h, if_neg h]
      have hpos := rpos_le (fun x => q.1 20 (60 * p + x)) key n
      refine ⟨rfl, ?_, ?_⟩
      · dsimp only
        rw [layq_19, if_pos rfl, insR_len, rowsV_len, hnu]
      · dsimp only
        have hi := win_insR (k := (Prod.fst : Int32 × Int64 → Int32)) (f := fun x => (q.1 20 x, q.2 27 x)) (b := 60 * p) (n := n) (x := (key, v)) rfl (by rw [← hw]; exact hs)
        rw [← hw] at hi
        rw [← hi, ← win_ins _ _ hpos]
        unfold rowsV
        rw [nu_of (layq_19 _ _ _ _ _ _ _ |>.trans (if_pos rfl)) (by omega)]
        apply win_congr
        intro j hj
        rw [layq_20, layq_27]
        show _ = if 60 * p + j = 60 * p + rpos (fun j => q.1 20 (60 * p + j)) key n then (key, v) else insK (fun x => (q.1 20 x, q.2 27 x)) (60 * p) _ n (60 * p + j)
        unfold insK
        split
        · rfl
        · split <;> rfl
theorem glay_ne {q : xrho} {p n : Nat} {key : Int32} {v : Int64} {k : Nat} (h1 : k ≠ 19) (h2 : k ≠ 20) : (glay q p n key v).2.1 k = q.1 k := by
  unfold glay
  split
  · rfl
  · split
    · rfl
    · exact layq_ne _ _ _ _ _ _ h1 h2
theorem glay_neL {q : xrho} {p n : Nat} {key : Int32} {v : Int64} {k : Nat} (h1 : k ≠ 27) : (glay q p n key v).2.2 k = q.2 k := by
  unfold glay
  split
  · exact rupL_ne _ _ _ _ h1
  · split
    · rfl
    · exact layq_neL _ _ _ _ _ _ h1
theorem glay_at {q : xrho} {p n p' : Nat} {key : Int32} {v : Int64} (hn : n ≤ 60) (hp : p' ≠ p) : (glay q p n key v).2.1 19 p' = q.1 19 p' ∧ ∀ j, j < 60 → (glay q p n key v).2.1 20 (60 * p' + j) = q.1 20 (60 * p' + j) ∧ (glay q p n key v).2.2 27 (60 * p' + j) = q.2 27 (60 * p' + j) := by
  unfold glay
  split
  · rename_i i hf
    obtain ⟨-, hi, -⟩ := rfnd_lt hf
    refine ⟨rfl, fun j hj => ⟨rfl, ?_⟩⟩
    dsimp only
    rw [rupL_i, if_neg (by omega)]
  · split
    · exact ⟨rfl, fun j _ => ⟨rfl, rfl⟩⟩
    · have hpos := rpos_le (fun x => q.1 20 (60 * p + x)) key n
      refine ⟨by dsimp only; rw [layq_19, if_neg hp], fun j hj => ⟨?_, ?_⟩⟩
      · dsimp only
        rw [layq_20, if_neg (by omega)]
        unfold insK
        rw [if_neg (by omega)]
      · dsimp only
        rw [layq_27, if_neg (by omega)]
        unfold insK
        rw [if_neg (by omega)]
theorem glay_rows {q : xrho} {p n p' : Nat} {key : Int32} {v : Int64} (hn : n ≤ 60) (hp : p' ≠ p) (hb : nu q 19 p' ≤ 60) : rowsV (glay q p n key v).2 p' = rowsV q p' := rowsV_congr (glay_at hn hp).1 (glay_at hn hp).2 hb
theorem dsh_20 (q : xrho) (b j i : Nat) : (dsh q b j i).1 20 = delK (q.1 20) b j i := by
  unfold dsh
  dsimp only
  rw [va_up_self]
theorem dsh_27 (q : xrho) (b j i : Nat) : (dsh q b j i).2 27 = delK (q.2 27) b j i := by
  unfold dsh
  dsimp only
  rw [va_up_self]
theorem gstrike_spec {q : xrho} {p n : Nat} {key : Int32} (hn : n ≤ 60) (hq : q.1 19 p = nI n) (hs : srt Prod.fst (rowsV q p)) : (gstrike q p n key).1 19 p = nI (dropK Prod.fst key (rowsV q p)).length ∧ rowsV (gstrike q p n key) p = dropK Prod.fst key (rowsV q p) := by
  have hnu : nu q 19 p = n := nu_of hq (by omega)
  have hw : rowsV q p = win (fun x => (q.1 20 x, q.2 27 x)) (60 * p) n := by unfold rowsV; rw [hnu]
  unfold gstrike
  cases hf : rfnd (fun j => q.1 20 (60 * p + j)) key 0 n with
  | none =>
    have h := rfnd_none (k := (Prod.fst : Int32 × Int64 → Int32)) (f := fun x => (q.1 20 x, q.2 27 x)) (b := 60 * p) (key := key) (n := n) hf
    rw [← hw] at h
    rw [dropK_none h]
    exact ⟨by rw [rowsV_len, hnu, hq], rfl⟩
  | some j =>
    obtain ⟨-, hj, hk⟩ := rfnd_lt hf
    have hd := win_dropK (k := (Prod.fst : Int32 × Int64 → Int32)) (f := fun x => (q.1 20 x, q.2 27 x)) (b := 60 * p) (n := n) (j := j) (key := key) (by omega) hk (by rw [← hw]; exact hs)
    have e19 : (dsh (rup q 19 p (nI (n - 1))) (60 * p) j (n - 1)).1 19 p = nI (n - 1) := by rw [dsh_19, rup_at]
    rw [← hw] at hd
    refine ⟨?_, ?_⟩
    · dsimp only
      rw [e19, ← hd, List.length_append, win_len, win_len]
      congr 1
      omega
    · dsimp only
      rw [← hd, ← win_del _ (by omega)]
      unfold rowsV
      rw [nu_of e19 (by omega)]
      apply win_congr
      intro i hi
      rw [dsh_20, dsh_27, rup_ne _ _ _ _ (by decide), rup_2]
      unfold delK
      split <;> rfl
theorem gstrike_ne {q : xrho} {p n : Nat} {key : Int32} {k : Nat} (h1 : k ≠ 19) (h2 : k ≠ 20) : (gstrike q p n key).1 k = q.1 k := by
  unfold gstrike
  split
  · unfold dsh
    dsimp only
    rw [va_up_ne _ _ h2, rup_ne _ _ _ _ h1]
  · rfl
theorem gstrike_neL {q : xrho} {p n : Nat} {key : Int32} {k : Nat} (h1 : k ≠ 27) : (gstrike q p n key).2 k = q.2 k := by
  unfold gstrike
  split
  · unfold dsh
    dsimp only
    rw [va_up_ne _ _ h1, rup_2]
  · rfl
theorem gstrike_at {q : xrho} {p n p' : Nat} {key : Int32} (hn : n ≤ 60) (hp : p' ≠ p) : (gstrike q p n key).1 19 p' = q.1 19 p' ∧ ∀ j, j < 60 → (gstrike q p n key).1 20 (60 * p' + j) = q.1 20 (60 * p' + j) ∧ (gstrike q p n key).2 27 (60 * p' + j) = q.2 27 (60 * p' + j) := by
  unfold gstrike
  split
  · rename_i i hf
    obtain ⟨-, hi, -⟩ := rfnd_lt hf
    refine ⟨?_, fun j hj => ⟨?_, ?_⟩⟩
    · rw [dsh_19, rup_i, if_neg hp]
    · rw [dsh_20, rup_ne _ _ _ _ (by decide)]
      unfold delK
      rw [if_neg (by omega)]
    · rw [dsh_27, rup_2]
      unfold delK
      rw [if_neg (by omega)]
  · exact ⟨rfl, fun j _ => ⟨rfl, rfl⟩⟩
theorem gstrike_rows {q : xrho} {p n p' : Nat} {key : Int32} (hn : n ≤ 60) (hp : p' ≠ p) (hb : nu q 19 p' ≤ 60) : rowsV (gstrike q p n key) p' = rowsV q p' := rowsV_congr (gstrike_at hn hp).1 (gstrike_at hn hp).2 hb
/-- keys to send: one more -/
def addK (l : List Int32) (key : Int32) : List Int32 := match lkp id key l with
  | some _ => l
  | none => insR id key l
theorem addK_srt {l : List Int32} {key : Int32} (h : srt id l) : srt id (addK l key) := by
  unfold addK
  cases hl : lkp id key l with
  | some x => exact h
  | none => exact insR_srt h (lkp_none.mp hl)
theorem owesq_25 (q : xrho) (p n pos : Nat) (key : Int32) (x : Nat) : (owesq q p n pos key).1 25 x = if x = p then nI (n + 1) else q.1 25 x := by
  unfold owesq
  rw [rup_i, rup_ne _ _ _ _ (by decide), osh_25]
theorem owesq_26 (q : xrho) (p n pos : Nat) (key : Int32) (x : Nat) : (owesq q p n pos key).1 26 x = if x = 500 * p + pos then key else insK (q.1 26) (500 * p) pos n x := by
  unfold owesq
  rw [rup_ne _ _ _ _ (by decide), rup_i]
  congr 1
theorem gowes_spec {q : xrho} {p n : Nat} {key : Int32} (hn : n < 500) (hq : q.1 25 p = nI n) (hs : srt id (sendV q p)) : (gowes q p n key).1 25 p = nI (addK (sendV q p) key).length ∧ sendV (gowes q p n key) p = addK (sendV q p) key := by
  have hnu : nu q 25 p = n := nu_of hq (by omega)
  have hw : sendV q p = win (q.1 26) (500 * p) n := by unfold sendV; rw [hnu]
  have hl := rfnd_lkp (k := (id : Int32 → Int32)) (f := q.1 26) (b := 500 * p) (key := key) (m := n) (i := 0)
  rw [Nat.add_zero, ← hw] at hl
  unfold gowes addK
  cases hf : rfnd (fun j => q.1 26 (500 * p + j)) key 0 n with
  | some j =>
    have hf' : rfnd (fun j => id (q.1 26 (500 * p + j))) key 0 n = some j := hf
    rw [hf'] at hl
    rw [← hl]
    dsimp only [Option.map_some]
    exact ⟨by rw [sendV_len, hnu, hq], rfl⟩
  | none =>
    have hf' : rfnd (fun j => id (q.1 26 (500 * p + j))) key 0 n = none := hf
    rw [hf'] at hl
    rw [← hl]
    dsimp only [Option.map_none]
    have hpos := rpos_le (fun x => q.1 26 (500 * p + x)) key n
    refine ⟨by rw [owesq_25, if_pos rfl, insR_len, sendV_len, hnu], ?_⟩
    have hi := win_insR (k := (id : Int32 → Int32)) (f := q.1 26) (b := 500 * p) (n := n) (x := key) rfl (by rw [← hw]; exact hs)
    rw [← hw] at hi
    simp only [id_eq] at hi
    rw [← hi, ← win_ins _ _ hpos]
    unfold sendV
    rw [nu_of (owesq_25 _ _ _ _ _ _ |>.trans (if_pos rfl)) (by omega)]
    apply win_congr
    intro j hj
    rw [owesq_26]
theorem gowes_at {q : xrho} {p n p' : Nat} {key : Int32} (hn : n < 500) (hp : p' ≠ p) : (gowes q p n key).1 25 p' = q.1 25 p' ∧ ∀ j, j < 500 → (gowes q p n key).1 26 (500 * p' + j) = q.1 26 (500 * p' + j) := by
  unfold gowes
  split
  · exact ⟨rfl, fun j _ => rfl⟩
  · have hpos := rpos_le (fun x => q.1 26 (500 * p + x)) key n
    refine ⟨by rw [owesq_25, if_neg hp], fun j hj => ?_⟩
    rw [owesq_26, if_neg (by omega)]
    unfold insK
    rw [if_neg (by omega)]
/-- kept answers: one more, the four greatest counts stay -/
def keepL (l : KW) (x : Int32 × Int64 × Int32) : KW := match lkp Prod.fst x.1 l with
  | some _ => l
  | none => if l.length = 4 then (if x.1 < (l.head?.getD x).1 then l else insR Prod.fst x l.tail) else insR Prod.fst x l
theorem kpos_spec {g : Nat → Int32} {c : Int32} : ∀ {n : Nat}, (∀ j, kpos g c n ≤ j → j < n → g j < c) ∧ (kpos g c n = 0 ∨ ¬ g (kpos g c n - 1) < c)
  | 0 => ⟨fun j _ h => absurd h (by omega), Or.inl rfl⟩
  | n + 1 => by
    unfold kpos
    by_cases h : g n < c
    · rw [if_pos h]
      refine ⟨fun j h1 h2 => ?_, (kpos_spec (n := n)).2⟩
      by_cases e : j = n
      · rw [e]; exact h
      · exact (kpos_spec (n := n)).1 j h1 (by omega)
    · rw [if_neg h]
      exact ⟨fun j h1 h2 => absurd h1 (by omega), Or.inr h⟩
theorem srt_rev {α : Type} {k : α → Int32} {f : Nat → α} {b n : Nat} (h : srt k (win f b n).reverse) {i j : Nat} (hij : i < j) (hj : j < n) : k (f (b + j)) < k (f (b + i)) := by
  have h0 := List.pairwise_reverse.mp h
  have h1 := List.pairwise_iff_getElem.mp h0 i j (by rw [win_len]; omega) (by rw [win_len]; omega) hij
  have e1 : (win f b n)[i]'(by rw [win_len]; omega) = f (b + i) := by simp [win]
  have e2 : (win f b n)[j]'(by rw [win_len]; omega) = f (b + j) := by simp [win]
  rw [e1, e2] at h1
  exact h1
theorem win_insD {α : Type} {k : α → Int32} {f : Nat → α} {b n : Nat} {x : α} (hne : ∀ j, j < n → k (f (b + j)) ≠ k x) (hs : srt k (win f b n).reverse) : (win f b (kpos (fun j => k (f (b + j))) (k x) n) ++ x :: win f (b + kpos (fun j => k (f (b + j))) (k x) n) (n - kpos (fun j => k (f (b + j))) (k x) n)).reverse = insR k x (win f b n).reverse := by
  have hle := kpos_le (fun j => k (f (b + j))) (k x) n
  obtain ⟨h1, h2⟩ := kpos_spec (g := fun j => k (f (b + j))) (c := k x) (n := n)
  revert h1 h2 hle
  generalize kpos (fun j => k (f (b + j))) (k x) n = pos
  intro hle h1 h2
  have e : win f b n = win f b pos ++ win f (b + pos) (n - pos) := by
    rw [← win_app]
    congr 1
    omega
  rw [e, List.reverse_append, List.reverse_append, List.reverse_cons, List.append_assoc, List.singleton_append]
  refine (insR_split (fun y hy => ?_) (fun y hy => ?_)).symm
  · obtain ⟨j, hj, rfl⟩ := win_mem.mp (List.mem_reverse.mp hy)
    rcases h2 with h2 | h2
    · omega
    · have h3 : k x < k (f (b + (pos - 1))) := i_tri h2 (hne _ (by omega))
      by_cases ej : j = pos - 1
      · rw [ej]; exact h3
      · exact i_tr h3 (srt_rev hs (i := j) (j := pos - 1) (by omega) (by omega))
  · obtain ⟨j, hj, rfl⟩ := win_mem.mp (List.mem_reverse.mp hy)
    rw [Nat.add_assoc]
    intro hc
    exact i_irr (i_tr hc (h1 (pos + j) (by omega) (by omega)))
theorem keepq_35 (q : xrho) (c s pos : Nat) (count : Int32) (v : Int64) (sign : Int32) (x : Nat) : (keepq q c s pos count v sign).1 35 x = if x = 4 * c + pos then count else insK (q.1 35) (4 * c) pos s x := by
  unfold keepq
  rw [rup_ne _ _ _ _ (by decide), rupL_1, rup_i, ksh_35]
theorem keepq_36 (q : xrho) (c s pos : Nat) (count : Int32) (v : Int64) (sign : Int32) (x : Nat) : (keepq q c s pos count v sign).1 36 x = if x = 4 * c + pos then sign else insK (q.1 36) (4 * c) pos s x := by
  unfold keepq
  rw [rup_i, rupL_1, rup_ne _ _ _ _ (by decide), ksh_36]
theorem keepq_37 (q : xrho) (c s pos : Nat) (count : Int32) (v : Int64) (sign : Int32) (x : Nat) : (keepq q c s pos count v sign).2 37 x = if x = 4 * c + pos then v else insK (q.2 37) (4 * c) pos s x := by
  unfold keepq
  rw [rup_2, rupL_i, rup_2, ksh_37]
theorem keepq_win {q : xrho} {c s pos : Nat} {count : Int32} {v : Int64} {sign : Int32} (hpos : pos ≤ s) : win (fun x => ((keepq q c s pos count v sign).1 35 x, (keepq q c s pos count v sign).2 37 x, (keepq q c s pos count v sign).1 36 x)) (4 * c) (s + 1) = win (fun x => (q.1 35 x, q.2 37 x, q.1 36 x)) (4 * c) pos ++ (count, v, sign) :: win (fun x => (q.1 35 x, q.2 37 x, q.1 36 x)) (4 * c + pos) (s - pos) := by
  rw [← win_ins _ _ hpos]
  apply win_congr
  intro j hj
  rw [keepq_35, keepq_36, keepq_37]
  unfold insK
  split
  · rfl
  · split <;> rfl
theorem rev_len {α : Type} (f : Nat → α) (b n : Nat) : ((win f b n).reverse).length = n := by rw [List.length_reverse, win_len]
theorem gkeep_spec {q : xrho} {c n : Nat} {count : Int32} {v : Int64} {sign : Int32} (hn : n ≤ 4) (hq : q.1 34 c = nI n) (hs : srt Prod.fst (keptV q c)) : (gkeep q c n count v sign).1 34 c = nI (keepL (keptV q c) (count, v, sign)).length ∧ keptV (gkeep q c n count v sign) c = keepL (keptV q c) (count, v, sign) := by
  have hnu : nu q 34 c = n := nu_of hq (by omega)
  have hw : keptV q c = (win (fun x => (q.1 35 x, q.2 37 x, q.1 36 x)) (4 * c) n).reverse := by unfold keptV; rw [hnu]
  unfold gkeep keepL
  cases hf : rfnd (fun j => q.1 35 (4 * c + j)) count 0 n with
  | some j =>
    obtain ⟨-, hj, hk⟩ := rfnd_lt hf
    cases hl : lkp Prod.fst count (keptV q c) with
    | some x => exact ⟨by dsimp only; rw [keptV_len, hnu, hq], rfl⟩
    | none =>
      refine absurd hk (lkp_none.mp hl (q.1 35 (4 * c + j), q.2 37 (4 * c + j), q.1 36 (4 * c + j)) ?_)
      rw [hw]
      exact List.mem_reverse.mpr (win_mem.mpr ⟨j, by omega, rfl⟩)
  | none =>
    have hno := rfnd_none (k := (Prod.fst : Int32 × Int64 × Int32 → Int32)) (f := fun x => (q.1 35 x, q.2 37 x, q.1 36 x)) (b := 4 * c) (key := count) (n := n) hf
    have hl : lkp Prod.fst count (keptV q c) = none := lkp_none.mpr (fun y hy => hno y (by rw [hw] at hy; exact List.mem_reverse.mp hy))
    rw [hl]
    dsimp only
    rw [keptV_len, hnu]
    have hne : ∀ j, j < n → q.1 35 (4 * c + j) ≠ count := fun j hj => hno _ (win_mem.mpr ⟨j, hj, rfl⟩)
    by_cases h4 : n = 4
    · subst h4
      have hh : ((keptV q c).head?.getD (count, v, sign)).1 = q.1 35 (4 * c + 3) := by
        rw [hw, win_succ, List.reverse_append]
        rfl
      rw [hh, if_pos rfl]
      by_cases h5 : count < q.1 35 (4 * c + 3)
      · rw [if_pos ⟨rfl, h5⟩, if_pos h5, if_pos rfl]
        exact ⟨by rw [keptV_len, hnu, hq], rfl⟩
      · rw [if_neg (fun h => h5 h.2), if_neg h5, if_pos rfl]
        have hpos := kpos_le (fun x => q.1 35 (4 * c + x)) count 3
        have ht : (keptV q c).tail = (win (fun x => (q.1 35 x, q.2 37 x, q.1 36 x)) (4 * c) 3).reverse := by
          rw [hw, win_succ, List.reverse_append]
          rfl
        have hst : srt Prod.fst (keptV q c).tail := by
          unfold srt at *
          exact List.Pairwise.sublist (List.tail_sublist _) hs
        have e34 : (keepq q c 3 (kpos (fun x => q.1 35 (4 * c + x)) count 3) count v sign).1 34 c = nI 4 := by rw [keepq_ne _ _ _ _ _ _ _ (by decide) (by decide), hq]
        have hi := win_insD (k := (Prod.fst : Int32 × Int64 × Int32 → Int32)) (f := fun x => (q.1 35 x, q.2 37 x, q.1 36 x)) (b := 4 * c) (n := 3) (x := (count, v, sign)) (fun j hj => hne j (by omega)) (by rw [← ht]; exact hst)
        rw [← ht] at hi
        refine ⟨by rw [e34, insR_len, ht, rev_len], ?_⟩
        rw [← hi, ← keepq_win hpos]
        unfold keptV
        rw [nu_of e34 (by decide)]
    · rw [if_neg (fun h => h4 h.1), if_neg h4, if_neg h4]
      have hpos := kpos_le (fun x => q.1 35 (4 * c + x)) count n
      have e34 : (keepq (rup q 34 c (nI (n + 1))) c n (kpos (fun x => q.1 35 (4 * c + x)) count n) count v sign).1 34 c = nI (n + 1) := by rw [keepq_ne _ _ _ _ _ _ _ (by decide) (by decide), rup_at]
      have hi := win_insD (k := (Prod.fst : Int32 × Int64 × Int32 → Int32)) (f := fun x => (q.1 35 x, q.2 37 x, q.1 36 x)) (b := 4 * c) (n := n) (x := (count, v, sign)) (fun j hj => hne j hj) (by rw [← hw]; exact hs)
      rw [← hw] at hi
      refine ⟨by rw [e34, insR_len, keptV_len, hnu], ?_⟩
      have hkw := keepq_win (q := rup q 34 c (nI (n + 1))) (c := c) (s := n) (count := count) (v := v) (sign := sign) hpos
      rw [rup_ne _ _ _ _ (show 35 ≠ 34 by decide), rup_ne _ _ _ _ (show 36 ≠ 34 by decide), rup_2] at hkw
      rw [← hi, ← hkw]
      unfold keptV
      rw [nu_of e34 (by omega)]
theorem keepL_len {l : KW} {x : Int32 × Int64 × Int32} (h : l.length ≤ 4) : (keepL l x).length ≤ 4 := by
  unfold keepL
  split
  · exact h
  · split
    · split
      · exact h
      · rw [insR_len, List.length_tail]; omega
    · rw [insR_len]; omega
theorem keepL_srt {l : KW} {x : Int32 × Int64 × Int32} (h : srt Prod.fst l) : srt Prod.fst (keepL l x) := by
  unfold keepL
  cases hl : lkp Prod.fst x.1 l with
  | some y => exact h
  | none =>
    have hn := lkp_none.mp hl
    dsimp only
    split
    · split
      · exact h
      · exact insR_srt (List.Pairwise.sublist (List.tail_sublist _) h) (fun y hy => hn y (List.mem_of_mem_tail hy))
    · exact insR_srt h hn
theorem gkeep_at {q : xrho} {c n c' : Nat} {count : Int32} {v : Int64} {sign : Int32} (hn : n ≤ 4) (hc : c' ≠ c) : (gkeep q c n count v sign).1 34 c' = q.1 34 c' ∧ ∀ j, j < 4 → (gkeep q c n count v sign).1 35 (4 * c' + j) = q.1 35 (4 * c' + j) ∧ (gkeep q c n count v sign).2 37 (4 * c' + j) = q.2 37 (4 * c' + j) ∧ (gkeep q c n count v sign).1 36 (4 * c' + j) = q.1 36 (4 * c' + j) := by
  have hk : ∀ (q : xrho) s pos, s ≤ 3 → pos ≤ s → (∀ j, j < 4 → (keepq q c s pos count v sign).1 35 (4 * c' + j) = q.1 35 (4 * c' + j) ∧ (keepq q c s pos count v sign).2 37 (4 * c' + j) = q.2 37 (4 * c' + j) ∧ (keepq q c s pos count v sign).1 36 (4 * c' + j) = q.1 36 (4 * c' + j)) := by
    intro q s pos hs hp j hj
    rw [keepq_35, keepq_36, keepq_37, if_neg (by omega), if_neg (by omega), if_neg (by omega)]
    unfold insK
    rw [if_neg (by omega), if_neg (by omega), if_neg (by omega)]
    exact ⟨rfl, rfl, rfl⟩
  unfold gkeep
  split
  · exact ⟨rfl, fun j _ => ⟨rfl, rfl, rfl⟩⟩
  · split
    · exact ⟨rfl, fun j _ => ⟨rfl, rfl, rfl⟩⟩
    · split
      · exact ⟨by rw [keepq_ne _ _ _ _ _ _ _ (by decide) (by decide)], hk _ _ _ (by omega) (kpos_le _ _ _)⟩
      · rename_i h4
        refine ⟨by rw [keepq_ne _ _ _ _ _ _ _ (by decide) (by decide), rup_i, if_neg hc], fun j hj => ?_⟩
        obtain ⟨a, b, d⟩ := hk (rup q 34 c (nI (n + 1))) n _ (by omega) (kpos_le _ _ _) j hj
        rw [a, b, d]
        exact ⟨rfl, rfl, rfl⟩
