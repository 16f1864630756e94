/-! ROWS IN ARRAYS AS LISTS: a window of n places from b on -/
def win {α : Type} (f : Nat → α) (b n : Nat) : List α := (List.range n).map (fun j => f (b + j))
theorem win_len {α : Type} (f : Nat → α) (b n : Nat) : (win f b n).length = n := by simp [win]
theorem win_get {α : Type} {f : Nat → α} {b n j : Nat} (h : j < n) : (win f b n)[j]? = some (f (b + j)) := by simp [win, h]
theorem win_zero {α : Type} (f : Nat → α) (b : Nat) : win f b 0 = [] := rfl
theorem win_succ {α : Type} (f : Nat → α) (b n : Nat) : win f b (n + 1) = win f b n ++ [f (b + n)] := by
  unfold win
  rw [List.range_succ, List.map_append]
  rfl
theorem win_cons {α : Type} (f : Nat → α) (b n : Nat) : win f b (n + 1) = f b :: win f (b + 1) n := by
  unfold win
  rw [List.range_succ_eq_map, List.map_cons, List.map_map]
  congr 1
  apply List.map_congr_left
  intro j _
  show f (b + (j + 1)) = f (b + 1 + j)
  congr 1
  omega
theorem win_app {α : Type} (f : Nat → α) (b m : Nat) : ∀ n, win f b (m + n) = win f b m ++ win f (b + m) n
  | 0 => by simp [win_zero]
  | n + 1 => by rw [← Nat.add_assoc, win_succ, win_app f b m n, win_succ, List.append_assoc, Nat.add_assoc]
theorem win_congr {α : Type} {f g : Nat → α} {b c n : Nat} (h : ∀ j, j < n → f (b + j) = g (c + j)) : win f b n = win g c n := by
  unfold win
  apply List.map_congr_left
  intro j hj
  exact h j (List.mem_range.mp hj)
theorem win_mem {α : Type} {f : Nat → α} {b n : Nat} {x : α} : x ∈ win f b n ↔ ∃ j, j < n ∧ f (b + j) = x := by
  unfold win
  simp [List.mem_map, List.mem_range]
theorem win_ins {α : Type} (f : Nat → α) {b pos n : Nat} (x : α) (h : pos ≤ n) : win (fun i => if i = b + pos then x else insK f b pos n i) b (n + 1) = win f b pos ++ x :: win f (b + pos) (n - pos) := by
  rw [show n + 1 = pos + ((n - pos) + 1) by omega, win_app, win_cons, if_pos rfl]
  congr 1
  · apply win_congr
    intro j hj
    rw [if_neg (by omega)]
    unfold insK
    rw [if_neg (by omega)]
  · congr 1
    apply win_congr
    intro j hj
    rw [if_neg (by omega)]
    unfold insK
    rw [if_pos ⟨by omega, by omega⟩]
    congr 1
    omega
theorem win_del {α : Type} (f : Nat → α) {b j n : Nat} (h : j ≤ n) : win (delK f b j n) b n = win f b j ++ win f (b + j + 1) (n - j) := by
  rw [show win (delK f b j n) b n = win (delK f b j n) b (j + (n - j)) by rw [show j + (n - j) = n by omega], win_app]
  congr 1
  · apply win_congr
    intro i hi
    unfold delK
    rw [if_neg (by omega)]
  · apply win_congr
    intro i hi
    unfold delK
    rw [if_pos ⟨by omega, by omega⟩]
    congr 1
    omega
/-- in its place, before the first that is greater -/
def insR {α : Type} (k : α → Int32) (x : α) : List α → List α
  | [] => [x]
  | y :: r => if k x < k y then x :: y :: r else y :: insR k x r
def srt {α : Type} (k : α → Int32) (l : List α) : Prop := l.Pairwise (fun x y => k x < k y)
theorem insR_split {α : Type} {k : α → Int32} {x : α} {B : List α} (hB : ∀ y ∈ B, k x < k y) : ∀ {A : List α}, (∀ y ∈ A, ¬ k x < k y) → insR k x (A ++ B) = A ++ x :: B
  | [], _ => by
    cases B with
    | nil => rfl
    | cons y r =>
      show insR k x (y :: r) = _
      unfold insR
      rw [if_pos (hB y (by simp))]
      rfl
  | y :: A, h => by
    show insR k x (y :: (A ++ B)) = _
    unfold insR
    rw [if_neg (h y (by simp)), insR_split hB (fun z hz => h z (by simp [hz]))]
    rfl
theorem insR_mem {α : Type} {k : α → Int32} {x y : α} : ∀ {l : List α}, y ∈ insR k x l ↔ y = x ∨ y ∈ l
  | [] => by simp [insR]
  | z :: r => by
    unfold insR
    split
    · simp
    · simp only [List.mem_cons, insR_mem (l := r)]
      constructor
      · rintro (h | h | h)
        · exact Or.inr (Or.inl h)
        · exact Or.inl h
        · exact Or.inr (Or.inr h)
      · rintro (h | h | h)
        · exact Or.inr (Or.inl h)
        · exact Or.inl h
        · exact Or.inr (Or.inr h)
theorem i_tri {x y : Int32} (h : ¬ x < y) (h2 : x ≠ y) : y < x := by
  rw [Int32.lt_iff_toInt_lt] at *
  have : x.toInt ≠ y.toInt := fun e => h2 (Int32.toInt_inj.mp e)
  omega
theorem i_tr {x y z : Int32} (h : x < y) (h2 : y < z) : x < z := by
  rw [Int32.lt_iff_toInt_lt] at *
  omega
theorem i_irr {x : Int32} (h : x < x) : False := by
  rw [Int32.lt_iff_toInt_lt] at h
  omega
theorem insR_srt {α : Type} {k : α → Int32} {x : α} : ∀ {l : List α}, srt k l → (∀ y ∈ l, k y ≠ k x) → srt k (insR k x l)
  | [], _, _ => by simp [insR, srt]
  | z :: r, h, hn => by
    unfold insR
    have h' := List.pairwise_cons.mp h
    split
    · rename_i hc
      refine List.pairwise_cons.mpr ⟨fun y hy => ?_, h⟩
      rcases List.mem_cons.mp hy with rfl | hy
      · exact hc
      · exact i_tr hc (h'.1 y hy)
    · rename_i hc
      refine List.pairwise_cons.mpr ⟨fun y hy => ?_, insR_srt h'.2 (fun y hy => hn y (by simp [hy]))⟩
      rcases insR_mem.mp hy with rfl | hy
      · exact i_tri hc (fun e => hn z (by simp) e.symm)
      · exact h'.1 y hy
theorem insR_len {α : Type} {k : α → Int32} {x : α} : ∀ {l : List α}, (insR k x l).length = l.length + 1
  | [] => rfl
  | z :: r => by
    unfold insR
    split
    · rfl
    · simp [insR_len (l := r)]
theorem rpos_spec {g : Nat → Int32} {key : Int32} : ∀ {n : Nat}, (∀ j, rpos g key n ≤ j → j < n → key < g j) ∧ (rpos g key n = 0 ∨ ¬ key < g (rpos g key n - 1))
  | 0 => ⟨fun j _ h => absurd h (by omega), Or.inl rfl⟩
  | n + 1 => by
    unfold rpos
    by_cases h : key < g n
    · rw [if_pos h]
      refine ⟨fun j h1 h2 => ?_, (rpos_spec (n := n)).2⟩
      by_cases e : j = n
      · rw [e]; exact h
      · exact (rpos_spec (n := n)).1 j h1 (by omega)
    · rw [if_neg h]
      exact ⟨fun j h1 h2 => absurd h1 (by omega), Or.inr h⟩
theorem srt_win {α : Type} {k : α → Int32} {f : Nat → α} {b n : Nat} (h : srt k (win f b n)) {i j : Nat} (hij : i < j) (hj : j < n) : k (f (b + i)) < k (f (b + j)) := by
  have h1 := List.pairwise_iff_getElem.mp h i j (by rw [win_len]; omega) (by rw [win_len]; omega) hij
  have e1 : (win f b n)[i]'(by rw [win_len]; omega) = f (b + i) := by simp [win]
  have e2 : (win f b n)[j]'(by rw [win_len]; omega) = f (b + j) := by simp [win]
  rw [e1, e2] at h1
  exact h1
/-- what the loop from the end does, as a list -/
theorem win_insR {α : Type} {k : α → Int32} {f : Nat → α} {b n : Nat} {x : α} {key : Int32} (hk : k x = key) (hs : srt k (win f b n)) : win f b (rpos (fun j => k (f (b + j))) key n) ++ x :: win f (b + rpos (fun j => k (f (b + j))) key n) (n - rpos (fun j => k (f (b + j))) key n) = insR k x (win f b n) := by
  subst hk
  have hle := rpos_le (fun j => k (f (b + j))) (k x) n
  obtain ⟨h1, h2⟩ := rpos_spec (g := fun j => k (f (b + j))) (key := k x) (n := n)
  revert h1 h2 hle
  generalize rpos (fun j => k (f (b + j))) (k x) n = pos
  intro hle h1 h2
  have e : win f b n = win f b pos ++ win f (b + pos) (n - pos) := by
    rw [← win_app]
    congr 1
    omega
  rw [e]
  refine (insR_split (fun y hy => ?_) (fun y hy => ?_)).symm
  · obtain ⟨j, hj, rfl⟩ := win_mem.mp hy
    rw [Nat.add_assoc]
    exact h1 (pos + j) (by omega) (by omega)
  · obtain ⟨j, hj, rfl⟩ := win_mem.mp hy
    rcases h2 with h2 | h2
    · omega
    · intro hc
      by_cases ej : j = pos - 1
      · rw [ej] at hc; exact h2 hc
      · exact h2 (i_tr hc (srt_win hs (i := j) (j := pos - 1) (by omega) (by omega)))
/-- the first with that key -/
def lkp {α : Type} (k : α → Int32) (key : Int32) : List α → Option α
  | [] => none
  | y :: r => if k y = key then some y else lkp k key r
theorem rfnd_lkp {α : Type} {k : α → Int32} {f : Nat → α} {b : Nat} {key : Int32} : ∀ {m i : Nat}, (rfnd (fun j => k (f (b + j))) key i m).map (fun j => f (b + j)) = lkp k key (win f (b + i) m)
  | 0, i => rfl
  | m + 1, i => by
    rw [win_cons]
    unfold rfnd lkp
    split
    · rfl
    · rw [rfnd_lkp (m := m) (i := i + 1)]
      rfl
theorem rfnd_none {α : Type} {k : α → Int32} {f : Nat → α} {b n : Nat} {key : Int32} (h : rfnd (fun j => k (f (b + j))) key 0 n = none) : ∀ y ∈ win f b n, k y ≠ key := by
  have : ∀ m i, rfnd (fun j => k (f (b + j))) key i m = none → ∀ j, i ≤ j → j < i + m → k (f (b + j)) ≠ key := by
    intro m
    induction m with
    | zero => intro i _ j h1 h2; omega
    | succ m ih =>
      intro i h j h1 h2
      unfold rfnd at h
      split at h
      · cases h
      · rename_i hc
        by_cases e : j = i
        · rw [e]; exact hc
        · exact ih (i + 1) h j (by omega) (by omega)
  intro y hy
  obtain ⟨j, hj, rfl⟩ := win_mem.mp hy
  exact this n 0 h j (by omega) (by omega)
theorem lkp_some {α : Type} {k : α → Int32} {key : Int32} {x : α} : ∀ {l : List α}, lkp k key l = some x → x ∈ l ∧ k x = key
  | [], h => by cases h
  | y :: r, h => by
    unfold lkp at h
    split at h
    · cases h
      exact ⟨by simp, by assumption⟩
    · exact ⟨by simp [(lkp_some h).1], (lkp_some h).2⟩
theorem lkp_none {α : Type} {k : α → Int32} {key : Int32} : ∀ {l : List α}, lkp k key l = none ↔ ∀ y ∈ l, k y ≠ key
  | [] => by simp [lkp]
  | y :: r => by
    unfold lkp
    split
    · rename_i h
      simp [h]
    · rename_i h
      rw [lkp_none (l := r)]
      simp [h]
/-- without that key -/
def dropK {α : Type} (k : α → Int32) (key : Int32) (l : List α) : List α := l.filter (fun y => decide (k y ≠ key))
theorem dropK_none {α : Type} {k : α → Int32} {key : Int32} {l : List α} (h : ∀ y ∈ l, k y ≠ key) : dropK k key l = l := by
  unfold dropK
  apply List.filter_eq_self.mpr
  intro y hy
  simp [h y hy]
theorem win_dropK {α : Type} {k : α → Int32} {f : Nat → α} {b n j : Nat} {key : Int32} (hj : j < n) (hk : k (f (b + j)) = key) (hs : srt k (win f b n)) : win f b j ++ win f (b + j + 1) (n - 1 - j) = dropK k key (win f b n) := by
  have e : win f b n = win f b j ++ f (b + j) :: win f (b + j + 1) (n - 1 - j) := by
    rw [show n = j + ((n - 1 - j) + 1) by omega, win_app, win_cons]
    congr 3
    omega
  conv => rhs; rw [e]
  unfold dropK
  rw [List.filter_append, List.filter_cons, if_neg (by simp [hk])]
  congr 1
  · symm
    apply List.filter_eq_self.mpr
    intro y hy
    obtain ⟨i, hi, rfl⟩ := win_mem.mp hy
    have := srt_win hs (i := i) (j := j) hi hj
    rw [hk] at this
    simp only [ne_eq, decide_not, Bool.not_eq_true', decide_eq_false_iff_not]
    intro e2
    rw [e2] at this
    exact i_irr this
  · symm
    apply List.filter_eq_self.mpr
    intro y hy
    obtain ⟨i, hi, rfl⟩ := win_mem.mp hy
    have := srt_win hs (i := j) (j := j + 1 + i) (by omega) (by omega)
    rw [hk, show b + (j + 1 + i) = b + j + 1 + i by omega] at this
    simp only [ne_eq, decide_not, Bool.not_eq_true', decide_eq_false_iff_not]
    intro e2
    rw [e2] at this
    exact i_irr this
/-- in the place of the one with its key -/
def setK {α : Type} (k : α → Int32) (x : α) (l : List α) : List α := l.map (fun y => if k y = k x then x else y)
theorem win_setK {α : Type} {k : α → Int32} {f : Nat → α} {b n j : Nat} {x : α} (hj : j < n) (hk : k (f (b + j)) = k x) (hs : srt k (win f b n)) : win (fun i => if i = b + j then x else f i) b n = setK k x (win f b n) := by
  unfold setK win
  rw [List.map_map]
  apply List.map_congr_left
  intro i hi
  have hi := List.mem_range.mp hi
  show (if b + i = b + j then x else f (b + i)) = if k (f (b + i)) = k x then x else f (b + i)
  by_cases e : i = j
  · rw [if_pos (by rw [e]), if_pos (by rw [e]; exact hk)]
  · rw [if_neg (by omega), if_neg (fun e2 => ?_)]
    rw [← hk] at e2
    rcases Nat.lt_or_gt_of_ne e with h | h
    · have := srt_win hs h hj
      rw [e2] at this
      exact i_irr this
    · have := srt_win hs h hi
      rw [e2] at this
      exact i_irr this
theorem setK_srt {α : Type} {k : α → Int32} {x : α} {l : List α} (h : srt k l) : srt k (setK k x l) := by
  unfold setK srt
  rw [List.pairwise_map]
  refine List.Pairwise.imp (fun {a b} hab => ?_) h
  have e : ∀ y, k (if k y = k x then x else y) = k y := by
    intro y
    split
    · rename_i e; exact e.symm
    · rfl
  rw [e, e]
  exact hab
theorem setK_len {α : Type} {k : α → Int32} {x : α} {l : List α} : (setK k x l).length = l.length := by simp [setK]
theorem dropK_srt {α : Type} {k : α → Int32} {key : Int32} {l : List α} (h : srt k l) : srt k (dropK k key l) := List.Pairwise.filter _ h
/-- rows: what lay answers, and the rows behind it -/
def putL (l : List (Int32 × Int64)) (key : Int32) (v : Int64) : Bool × List (Int32 × Int64) := match lkp Prod.fst key l with
  | some _ => (true, setK Prod.fst (key, v) l)
  | none => if l.length = 60 then (false, l) else (true, insR Prod.fst (key, v) l)
theorem putL_srt {l : List (Int32 × Int64)} {key : Int32} {v : Int64} (h : srt Prod.fst l) : srt Prod.fst (putL l key v).2 := by
  unfold putL
  cases hl : lkp Prod.fst key l with
  | some x => exact setK_srt h
  | none =>
    dsimp only
    split
    · exact h
    · exact insR_srt h (lkp_none.mp hl)
theorem putL_len {l : List (Int32 × Int64)} {key : Int32} {v : Int64} (h : l.length ≤ 60) : (putL l key v).2.length ≤ 60 := by
  unfold putL
  split
  · rw [setK_len]; exact h
  · split
    · exact h
    · rw [insR_len]; omega
