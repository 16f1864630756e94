/-! joining kept answers: in any order -/
theorem srt_ext {α : Type} {k : α → Int32} : ∀ {A B : List α}, srt k A → srt k B → (∀ z, z ∈ A ↔ z ∈ B) → A = B
  | [], [], _, _, _ => rfl
  | [], b :: B, _, _, h => by
    have := (h b).mpr (by simp)
    simp at this
  | a :: A, [], _, _, h => by
    have := (h a).mp (by simp)
    simp at this
  | a :: A, b :: B, hA, hB, h => by
    have a1 := List.pairwise_cons.mp hA
    have b1 := List.pairwise_cons.mp hB
    have e : a = b := by
      rcases List.mem_cons.mp ((h a).mp (by simp)) with e | e
      · exact e
      · rcases List.mem_cons.mp ((h b).mpr (by simp)) with e2 | e2
        · exact e2.symm
        · exact absurd (i_tr (b1.1 a e) (a1.1 b e2)) (fun h => i_irr h)
    subst e
    rw [srt_ext a1.2 b1.2 (fun z => ?_)]
    constructor
    · intro hz
      rcases List.mem_cons.mp ((h z).mp (by simp [hz])) with e | e
      · subst e
        exact absurd (a1.1 z hz) (fun h => i_irr h)
      · exact e
    · intro hz
      rcases List.mem_cons.mp ((h z).mpr (by simp [hz])) with e | e
      · subst e
        exact absurd (b1.1 z hz) (fun h => i_irr h)
      · exact e
abbrev KE : Type := Int32 × Int64 × Int32
def insA (l : KW) (x : KE) : KW := match lkp Prod.fst x.1 l with
  | some _ => l
  | none => insR Prod.fst x l
def top4 (l : KW) : KW := l.drop (l.length - 4)
theorem insA_in {l : KW} {x y : KE} (hy : y ∈ l) (e : y.1 = x.1) : insA l x = l := by
  unfold insA
  cases h : lkp Prod.fst x.1 l with
  | some _ => rfl
  | none => exact absurd e (lkp_none.mp h y hy)
theorem insA_out {l : KW} {x : KE} (h : ∀ y ∈ l, y.1 ≠ x.1) : insA l x = insR Prod.fst x l := by
  unfold insA
  rw [lkp_none.mpr h]
theorem insA_mem {l : KW} {x z : KE} : z ∈ insA l x ↔ z ∈ l ∨ (z = x ∧ ∀ y ∈ l, y.1 ≠ x.1) := by
  by_cases h : ∃ y ∈ l, y.1 = x.1
  · obtain ⟨y, hy, e⟩ := h
    rw [insA_in hy e]
    exact ⟨Or.inl, fun h => h.elim id (fun h => absurd e (h.2 y hy))⟩
  · have h' : ∀ y ∈ l, y.1 ≠ x.1 := fun y hy e => h ⟨y, hy, e⟩
    rw [insA_out h', insR_mem]
    exact ⟨fun h => h.elim (fun e => Or.inr ⟨e, h'⟩) Or.inl, fun h => h.elim Or.inr (fun e => Or.inl e.1)⟩
theorem insA_srt {l : KW} {x : KE} (h : srt Prod.fst l) : srt Prod.fst (insA l x) := by
  by_cases h1 : ∃ y ∈ l, y.1 = x.1
  · obtain ⟨y, hy, e⟩ := h1
    rw [insA_in hy e]
    exact h
  · have h' : ∀ y ∈ l, y.1 ≠ x.1 := fun y hy e => h1 ⟨y, hy, e⟩
    rw [insA_out h']
    exact insR_srt h h'
theorem top4_s {l : KW} (h : l.length ≤ 4) : top4 l = l := by
  unfold top4
  rw [show l.length - 4 = 0 by omega, List.drop_zero]
theorem top4_4 {A B : KW} (h : B.length = 4) : top4 (A ++ B) = B := by
  unfold top4
  rw [List.length_append, show A.length + B.length - 4 = A.length by omega, List.drop_left]
theorem top4_5 {A B : KW} (h : B.length = 5) : top4 (A ++ B) = B.tail := by
  unfold top4
  cases B with
  | nil => simp at h
  | cons b B =>
    rw [show A ++ b :: B = (A ++ [b]) ++ B by simp, List.length_append, show (A ++ [b]).length + B.length - 4 = (A ++ [b]).length by simp at h ⊢; omega, List.drop_left]
    rfl
theorem top4_len (l : KW) : (top4 l).length ≤ 4 := by
  unfold top4
  rw [List.length_drop]
  omega
theorem top4_srt {l : KW} (h : srt Prod.fst l) : srt Prod.fst (top4 l) := List.Pairwise.sublist (List.drop_sublist _ _) h
theorem keepL_top {l : KW} {x : KE} (hs : srt Prod.fst l) (hl : l.length ≤ 4) : keepL l x = top4 (insA l x) := by
  by_cases h1 : ∃ y ∈ l, y.1 = x.1
  · obtain ⟨y, hy, e⟩ := h1
    rw [insA_in hy e, top4_s hl]
    unfold keepL
    cases h : lkp Prod.fst x.1 l with
    | some _ => rfl
    | none => exact absurd e (lkp_none.mp h y hy)
  · have h' : ∀ y ∈ l, y.1 ≠ x.1 := fun y hy e => h1 ⟨y, hy, e⟩
    rw [insA_out h']
    unfold keepL
    rw [lkp_none.mpr h']
    dsimp only
    by_cases h4 : l.length = 4
    · rw [if_pos h4]
      have t5 := top4_5 (A := []) (B := insR Prod.fst x l) (by rw [insR_len, h4])
      rw [List.nil_append] at t5
      rw [t5]
      cases l with
      | nil => simp at h4
      | cons a t =>
        show (if x.1 < a.1 then a :: t else insR Prod.fst x t) = (if x.1 < a.1 then x :: a :: t else a :: insR Prod.fst x t).tail
        by_cases hx : x.1 < a.1
        · rw [if_pos hx, if_pos hx]; rfl
        · rw [if_neg hx, if_neg hx]; rfl
    · rw [if_neg h4, top4_s (by rw [insR_len]; omega)]
theorem top4_ins {s : KW} {y : KE} (hs : srt Prod.fst s) : top4 (insA (top4 s) y) = top4 (insA s y) := by
  by_cases hl : s.length ≤ 4
  · rw [top4_s hl]
  · have hsp : s = s.take (s.length - 4) ++ top4 s := (List.take_append_drop _ _).symm
    have hB : (top4 s).length = 4 := by unfold top4; rw [List.length_drop]; omega
    generalize hA : s.take (s.length - 4) = A at hsp
    generalize hBB : top4 s = B at hsp hB
    subst hsp
    have hp := List.pairwise_append.mp hs
    by_cases h1 : ∃ z ∈ B, z.1 = y.1
    · obtain ⟨z, hz, e⟩ := h1
      rw [insA_in hz e, insA_in (List.mem_append_right _ hz) e, top4_4 hB, top4_s (by omega)]
    · have h1' : ∀ z ∈ B, z.1 ≠ y.1 := fun z hz e => h1 ⟨z, hz, e⟩
      rw [insA_out h1']
      have hb0 : (∀ z ∈ B, y.1 < z.1) ∨ ∃ b ∈ B, b.1 < y.1 := by
        by_cases hh : ∃ b ∈ B, b.1 < y.1
        · exact Or.inr hh
        · exact Or.inl (fun z hz => i_tri (fun e => hh ⟨z, hz, e⟩) (h1' z hz))
      have t5 := top4_5 (A := []) (B := insR Prod.fst y B) (by rw [insR_len, hB])
      rw [List.nil_append] at t5
      rw [t5]
      rcases hb0 with hb0 | ⟨b, hb, hby⟩
      · have e1 : insR Prod.fst y B = y :: B := by
          have := insR_split (k := Prod.fst) (x := y) (B := B) hb0 (A := []) (by simp)
          exact this
        rw [e1]
        by_cases h2 : ∃ z ∈ A, z.1 = y.1
        · obtain ⟨z, hz, e⟩ := h2
          rw [insA_in (List.mem_append_left _ hz) e, top4_4 hB]
          rfl
        · rw [insA_out (fun z hz e => by
            rcases List.mem_append.mp hz with h | h
            · exact h2 ⟨z, h, e⟩
            · exact h1' z h e)]
          have e3 : ∀ A : KW, insR Prod.fst y (A ++ B) = insR Prod.fst y A ++ B := by
            intro A
            induction A with
            | nil => rw [List.nil_append, e1]; rfl
            | cons c A ih =>
              show insR Prod.fst y (c :: (A ++ B)) = _
              unfold insR
              by_cases hc : y.1 < c.1
              · rw [if_pos hc, if_pos hc]; rfl
              · rw [if_neg hc, if_neg hc, ih]; rfl
          rw [e3, top4_4 hB]
          rfl
      · have hAy : ∀ z ∈ A, z.1 < y.1 := fun z hz => i_tr (hp.2.2 z hz b hb) hby
        rw [insA_out (fun z hz e => by
          rcases List.mem_append.mp hz with h | h
          · have := hAy z h
            rw [e] at this
            exact i_irr this
          · exact h1' z h e)]
        have e3 : ∀ A : KW, (∀ z ∈ A, z.1 < y.1) → insR Prod.fst y (A ++ B) = A ++ insR Prod.fst y B := by
          intro A
          induction A with
          | nil => intro _; rfl
          | cons c A ih =>
            intro hc
            show insR Prod.fst y (c :: (A ++ B)) = _
            rw [show insR Prod.fst y (c :: (A ++ B)) = if y.1 < c.1 then y :: c :: (A ++ B) else c :: insR Prod.fst y (A ++ B) from rfl, if_neg (fun h => i_irr (i_tr h (hc c (by simp)))), ih (fun z hz => hc z (by simp [hz]))]
            rfl
        rw [e3 A hAy, top4_5 (by rw [insR_len, hB])]
theorem fold_top : ∀ (xs s : KW), srt Prod.fst s → xs.foldl keepL (top4 s) = top4 (xs.foldl insA s)
  | [], _, _ => rfl
  | x :: xs, s, hs => by
    rw [List.foldl_cons, List.foldl_cons, keepL_top (top4_srt hs) (top4_len s), top4_ins hs]
    exact fold_top xs _ (insA_srt hs)
theorem fold_srt : ∀ (xs s : KW), srt Prod.fst s → srt Prod.fst (xs.foldl insA s)
  | [], _, h => h
  | x :: xs, s, hs => by
    rw [List.foldl_cons]
    exact fold_srt xs _ (insA_srt hs)
theorem fold_mem : ∀ (xs s : KW), xs.Pairwise (fun x y => x.1 ≠ y.1) → ∀ z, z ∈ xs.foldl insA s ↔ z ∈ s ∨ (z ∈ xs ∧ ∀ y ∈ s, y.1 ≠ z.1)
  | [], s, _, z => by simp
  | x :: xs, s, hp, z => by
    have h := List.pairwise_cons.mp hp
    rw [List.foldl_cons, fold_mem xs (insA s x) h.2 z, insA_mem]
    constructor
    · rintro ((h1 | ⟨rfl, h1⟩) | ⟨h1, h2⟩)
      · exact Or.inl h1
      · exact Or.inr ⟨by simp, h1⟩
      · exact Or.inr ⟨by simp [h1], fun y hy => h2 y (insA_mem.mpr (Or.inl hy))⟩
    · rintro (h1 | ⟨h1, h2⟩)
      · exact Or.inl (Or.inl h1)
      · rcases List.mem_cons.mp h1 with rfl | h3
        · exact Or.inl (Or.inr ⟨rfl, h2⟩)
        · refine Or.inr ⟨h3, fun y hy => ?_⟩
          rcases insA_mem.mp hy with hy | ⟨e, -⟩
          · exact h2 y hy
          · rw [e]
            exact h.1 z h3
theorem join_rev {K K' : KW} (hs : srt Prod.fst K) (hl : K.length ≤ 4) (hs' : srt Prod.fst K') : K'.reverse.foldl keepL K = K'.foldl keepL K := by
  have hd : K'.Pairwise (fun x y => x.1 ≠ y.1) := List.Pairwise.imp (fun h e => by rw [e] at h; exact i_irr h) hs'
  have hd2 : K'.reverse.Pairwise (fun x y => x.1 ≠ y.1) := by
    rw [List.pairwise_reverse]
    exact List.Pairwise.imp (fun h e => h e.symm) hd
  have e1 := fold_top K'.reverse K hs
  have e2 := fold_top K' K hs
  rw [top4_s hl] at e1 e2
  rw [e1, e2, srt_ext (fold_srt K'.reverse K hs) (fold_srt K' K hs) (fun z => by rw [fold_mem _ _ hd2, fold_mem _ _ hd, List.mem_reverse])]
