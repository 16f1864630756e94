/-! WHO OWNS A CELL: (group, part); what a run may change -/
abbrev xOw : Type := Nat → Nat × Nat
/-- every group's number is small -/
def bnd (ow : xOw) (M : xM) : Prop := ∀ b, b < M.1 → (ow b).1 < 10000 + M.1
/-- cells whose owner is in P stay; at most x new cells, y new slots -/
def stp (P : Nat × Nat → Prop) (x y : Nat) (ow : xOw) (M : xM) (ow' : xOw) (M' : xM) : Prop := M.1 ≤ M'.1 ∧ (M'.1 ≤ M.1 + x ∧ (bnd ow M → bnd ow' M')) ∧ M'.2.1 ≤ M.2.1 + y ∧ ∀ b, b < M.1 → ow' b = ow b ∧ (P (ow b) → M'.2.2 b = M.2.2 b)
theorem stp_rf (P : Nat × Nat → Prop) (ow : xOw) (M : xM) : stp P 0 0 ow M ow M := ⟨Nat.le_refl _, ⟨Nat.le_refl _, id⟩, Nat.le_refl _, fun _ _ => ⟨rfl, fun _ => rfl⟩⟩
theorem stp_tr {P : Nat × Nat → Prop} {x y x' y' : Nat} {ow ow1 ow2 : xOw} {M M1 M2 : xM} (h1 : stp P x y ow M ow1 M1) (h2 : stp P x' y' ow1 M1 ow2 M2) : stp P (x + x') (y + y') ow M ow2 M2 := by
  obtain ⟨a1, ⟨a2, a5⟩, a3, a4⟩ := h1
  obtain ⟨b1, ⟨b2, b5⟩, b3, b4⟩ := h2
  refine ⟨by omega, ⟨by omega, fun h => b5 (a5 h)⟩, by omega, fun b hb => ?_⟩
  obtain ⟨c1, c2⟩ := a4 b hb
  obtain ⟨d1, d2⟩ := b4 b (by omega)
  exact ⟨d1.trans c1, fun hP => (d2 (by rw [c1]; exact hP)).trans (c2 hP)⟩
theorem stp_w {P Q : Nat × Nat → Prop} {x y x' y' : Nat} {ow ow' : xOw} {M M' : xM} (h : stp P x y ow M ow' M') (hq : ∀ t, Q t → P t) (hx : x ≤ x') (hy : y ≤ y') : stp Q x' y' ow M ow' M' := ⟨h.1, ⟨by have := h.2.1.1; omega, h.2.1.2⟩, by have := h.2.2.1; omega, fun b hb => ⟨(h.2.2.2 b hb).1, fun hQ => (h.2.2.2 b hb).2 (hq _ hQ)⟩⟩
/-- one cell written -/
theorem stp_set {P : Nat × Nat → Prop} {ow : xOw} {M : xM} {a : Nat} {e : xE} (h : ¬ P (ow a)) : stp P 0 0 ow M ow (xset M a e) := ⟨Nat.le_refl _, ⟨Nat.le_refl _, id⟩, Nat.le_refl _, fun b _ => ⟨rfl, fun hP => xset_ne _ _ (fun e => h (by rw [← e]; exact hP))⟩⟩
theorem bnd_new {ow : xOw} {M : xM} {y : Nat} {z : Nat → xE} {t : Nat × Nat} (h : bnd ow M) (ht : t.1 < 10000 + (M.1 + 1)) : bnd (va_up ow M.1 t) (M.1 + 1, y, z) := by
  intro b hb
  have hb : b < M.1 + 1 := hb
  by_cases e : b = M.1
  · rw [e, va_up_self]; exact ht
  · rw [va_up_ne _ _ e]
    have := h b (by omega)
    show (ow b).1 < 10000 + (M.1 + 1)
    omega
/-- the group of a cell that is there -/
theorem bnd_g {ow : xOw} {M : xM} {a g k : Nat} (h : bnd ow M) (ha : a < M.1) (o : ow a = (g, k)) : g < 10000 + (M.1 + 1) := by
  have := h a ha
  rw [o] at this
  have this : g < 10000 + M.1 := this
  omega
/-- one cell made -/
theorem stp_new {P : Nat × Nat → Prop} {ow : xOw} {M : xM} {e : xE} {y : Nat} {t : Nat × Nat} (ht : bnd ow M → t.1 < 10000 + (M.1 + 1)) : stp P 1 y ow M (va_up ow M.1 t) (M.1 + 1, M.2.1 + y, va_up M.2.2 M.1 e) := ⟨Nat.le_succ _, ⟨Nat.le_refl _, fun h => bnd_new h (ht h)⟩, Nat.le_refl _, fun b hb => ⟨va_up_ne _ _ (by omega), fun _ => va_up_ne _ _ (by omega)⟩⟩
theorem ow_ne {ow : xOw} {a b : Nat} {s t : Nat × Nat} (h1 : ow a = s) (h2 : ow b = t) (h : s ≠ t) : a ≠ b := fun e => h (by rw [← h1, ← h2, e])
/-! Rows as an object -/
def oRows (M : xM) (ow : xOw) (g a : Nat) (l : RW) : Prop := ∃ (ka va : Nat) (q : xrho), M.2.2 a = .inr (9, [vi (q.1 19 0), vr (some ka), vr (some va)]) ∧ M.2.2 ka = .inl (0, 60, .inl (q.1 20)) ∧ M.2.2 va = .inl (1, 60, .inr (.inl (q.2 27))) ∧ PR q 0 l ∧ (ow a = (g, 1) ∧ ow ka = (g, 2) ∧ ow va = (g, 3)) ∧ a < M.1 ∧ ka < M.1 ∧ va < M.1
abbrev inP (g lo hi : Nat) (t : Nat × Nat) : Prop := t.1 = g ∧ lo ≤ t.2 ∧ t.2 ≤ hi
theorem inP_i {g lo hi k : Nat} (h1 : lo ≤ k) (h2 : k ≤ hi) : inP g lo hi (g, k) := ⟨rfl, h1, h2⟩
theorem oRows_f {P : Nat × Nat → Prop} {x y : Nat} {ow ow' : xOw} {M M' : xM} {g a : Nat} {l : RW} (h : oRows M ow g a l) (hs : stp P x y ow M ow' M') (hP : ∀ t, inP g 1 3 t → P t) : oRows M' ow' g a l := by
  obtain ⟨ka, va, q, h1, h2, h3, h4, ⟨o1, o2, o3⟩, b1, b2, b3⟩ := h
  obtain ⟨s1, s2, s3, s4⟩ := hs
  refine ⟨ka, va, q, ?_, ?_, ?_, h4, ⟨?_, ?_, ?_⟩, by omega, by omega, by omega⟩
  · rw [(s4 a b1).2 (hP _ (by rw [o1]; exact inP_i (by decide) (by decide)))]; exact h1
  · rw [(s4 ka b2).2 (hP _ (by rw [o2]; exact inP_i (by decide) (by decide)))]; exact h2
  · rw [(s4 va b3).2 (hP _ (by rw [o3]; exact inP_i (by decide) (by decide)))]; exact h3
  · rw [(s4 a b1).1]; exact o1
  · rw [(s4 ka b2).1]; exact o2
  · rw [(s4 va b3).1]; exact o3
theorem pRq_id {a ka va : Nat} {q : xrho} {M : xM} (h1 : M.2.2 a = .inr (9, [vi (q.1 19 0), vr (some ka), vr (some va)])) (h2 : M.2.2 ka = .inl (0, 60, .inl (q.1 20))) (h3 : M.2.2 va = .inl (1, 60, .inr (.inl (q.2 27)))) : pRq a ka va q M = M := by
  unfold pRq
  rw [xset_id h1, xset_id h2, xset_id h3]
theorem pRq_stp {a ka va g : Nat} {q : xrho} {M : xM} {ow : xOw} (o : ow a = (g, 1) ∧ ow ka = (g, 2) ∧ ow va = (g, 3)) : stp (fun t => ¬ inP g 1 3 t) 0 0 ow M ow (pRq a ka va q M) := by
  have s1 : stp (fun t => ¬ inP g 1 3 t) 0 0 ow M ow (xset M a (.inr (9, [vi (q.1 19 0), vr (some ka), vr (some va)]))) := stp_set (by rw [o.1]; exact fun h => h (inP_i (by decide) (by decide)))
  have s2 := stp_tr s1 (stp_set (P := fun t => ¬ inP g 1 3 t) (ow := ow) (M := xset M a (.inr (9, [vi (q.1 19 0), vr (some ka), vr (some va)]))) (a := ka) (e := .inl (0, 60, .inl (q.1 20))) (by rw [o.2.1]; exact fun h => h (inP_i (by decide) (by decide))))
  exact stp_tr s2 (stp_set (by rw [o.2.2]; exact fun h => h (inP_i (by decide) (by decide))))
theorem oRows_mk {a ka va g : Nat} {q : xrho} {M : xM} {ow : xOw} {l : RW} (o : ow a = (g, 1) ∧ ow ka = (g, 2) ∧ ow va = (g, 3)) (b : a < M.1 ∧ ka < M.1 ∧ va < M.1) (h : PR q 0 l) : oRows (pRq a ka va q M) ow g a l := by
  have D : nd3 a ka va := ⟨ow_ne o.1 o.2.1 (by simp), ow_ne o.1 o.2.2 (by simp), ow_ne o.2.1 o.2.2 (by simp)⟩
  exact ⟨ka, va, q, pR_o D, pR_ka D, pR_va, h, o, b⟩
theorem oR_find {T0 MI g a : Nat} {M : xM} {ow : xOw} {l : RW} {key : Int32} {o2 : Option xV} (h : oRows M ow g a l) : ∃ x, xZ T0 MI 54 0 [some (vr (some a)), some (vi key), o2] [] M = some (some (vi x), M) ∧ (x < 0 ↔ (lkp Prod.fst key l).isSome = false) := by
  obtain ⟨ka, va, q, h1, h2, h3, h4, o, b⟩ := h
  have D : nd3 a ka va := ⟨ow_ne o.1 o.2.1 (by simp), ow_ne o.1 o.2.2 (by simp), ow_ne o.2.1 o.2.2 (by simp)⟩
  have e := c_rfind (T0 := T0) (MI := MI) (M := M) (key := key) (o2 := o2) D h4.2.1 h4.1
  rw [pRq_id h1 h2 h3] at e
  refine ⟨_, e, ?_⟩
  have hl := PR_lkp h4 key
  cases ho : rfnd (fun j => q.1 20 (60 * 0 + j)) key 0 l.length with
  | none =>
    rw [ho] at hl
    dsimp only at hl
    rw [hl]
    exact ⟨fun _ => rfl, fun _ => (by decide : Int32.ofInt (-1) < 0)⟩
  | some j =>
    rw [ho] at hl
    dsimp only at hl
    rw [hl.2]
    exact ⟨fun h => absurd h (nI_pos (by have := hl.1; omega)), fun h => by cases h⟩
theorem oR_value {T0 MI g a : Nat} {M : xM} {ow : xOw} {l : RW} {key : Int32} {o2 : Option xV} (h : oRows M ow g a l) : xZ T0 MI 55 0 [some (vr (some a)), some (vi key), o2] [] M = some (some (vl (lkv (lkp Prod.fst key l))), M) := by
  obtain ⟨ka, va, q, h1, h2, h3, h4, o, b⟩ := h
  have D : nd3 a ka va := ⟨ow_ne o.1 o.2.1 (by simp), ow_ne o.1 o.2.2 (by simp), ow_ne o.2.1 o.2.2 (by simp)⟩
  have e := c_rvalue (T0 := T0) (MI := MI) (M := M) (key := key) (o2 := o2) D h4
  rw [pRq_id h1 h2 h3] at e
  exact e
theorem PR0 {q : xrho} {l : RW} (h : PR q 0 l) : nu q 19 0 = l.length ∧ rowsV q 0 = l := ⟨PR_nu h, h.2.2.1⟩
theorem oR_put {T0 MI g a : Nat} {M : xM} {ow : xOw} {l : RW} {key : Int32} {v : Int64} {o3 o4 : Option xV} (h : oRows M ow g a l) : ∃ M', xZ T0 MI 56 0 [some (vr (some a)), some (vi key), some (vl v), o3, o4] [] M = some (some (vi (zI (putL l key v).1)), M') ∧ oRows M' ow g a (putL l key v).2 ∧ stp (fun t => ¬ inP g 1 3 t) 0 0 ow M ow M' := by
  obtain ⟨ka, va, q, h1, h2, h3, h4, o, b⟩ := h
  have D : nd3 a ka va := ⟨ow_ne o.1 o.2.1 (by simp), ow_ne o.1 o.2.2 (by simp), ow_ne o.2.1 o.2.2 (by simp)⟩
  have e := c_rput (T0 := T0) (MI := MI) (M := M) (key := key) (v := v) (o3 := o3) (o4 := o4) D h4.2.1 h4.1
  rw [pRq_id h1 h2 h3] at e
  obtain ⟨g1, g2, g3⟩ := glay_spec (key := key) (v := v) h4.2.1 h4.1 (by rw [h4.2.2.1]; exact h4.2.2.2)
  rw [h4.2.2.1] at g1 g2 g3
  exact ⟨_, by rw [e, g1], oRows_mk o b ⟨g2, putL_len h4.2.1, g3, putL_srt h4.2.2.2⟩, pRq_stp o⟩
theorem oR_drop {T0 MI g a : Nat} {M : xM} {ow : xOw} {l : RW} {key : Int32} {o2 o3 : Option xV} (h : oRows M ow g a l) : ∃ M', xZ T0 MI 57 0 [some (vr (some a)), some (vi key), o2, o3] [] M = some (some (vi (zI (lkp Prod.fst key l).isSome)), M') ∧ oRows M' ow g a (dropK Prod.fst key l) ∧ stp (fun t => ¬ inP g 1 3 t) 0 0 ow M ow M' := by
  obtain ⟨ka, va, q, h1, h2, h3, h4, o, b⟩ := h
  have D : nd3 a ka va := ⟨ow_ne o.1 o.2.1 (by simp), ow_ne o.1 o.2.2 (by simp), ow_ne o.2.1 o.2.2 (by simp)⟩
  have e := c_rdrop (T0 := T0) (MI := MI) (M := M) (key := key) (o2 := o2) (o3 := o3) D h4.2.1 h4.1
  rw [pRq_id h1 h2 h3] at e
  obtain ⟨g2, g3⟩ := gstrike_spec (key := key) h4.2.1 h4.1 (by rw [h4.2.2.1]; exact h4.2.2.2)
  rw [h4.2.2.1] at g2 g3
  have hl := PR_lkp h4 key
  refine ⟨_, ?_, oRows_mk o b ⟨g2, Nat.le_trans dropK_len h4.2.1, g3, dropK_srt h4.2.2.2⟩, pRq_stp o⟩
  rw [e]
  congr 4
  cases ho : rfnd (fun j => q.1 20 (60 * 0 + j)) key 0 l.length with
  | none => rw [ho] at hl; dsimp only at hl; rw [hl]; rfl
  | some j => rw [ho] at hl; dsimp only at hl; rw [hl.2]; rfl
/-- its size, and a place of its rows -/
theorem oR_at {g a : Nat} {M : xM} {ow : xOw} {l : RW} (h : oRows M ow g a l) : ∃ ka va f w, M.2.2 a = .inr (9, [vi (nI l.length), vr (some ka), vr (some va)]) ∧ M.2.2 ka = .inl (0, 60, .inl f) ∧ M.2.2 va = .inl (1, 60, .inr (.inl w)) ∧ l.length ≤ 60 ∧ (∀ j (hj : j < l.length), f j = (l[j]).1 ∧ w j = (l[j]).2) ∧ srt Prod.fst l ∧ ow a = (g, 1) ∧ a < M.1 := by
  obtain ⟨ka, va, q, h1, h2, h3, h4, o, b⟩ := h
  refine ⟨ka, va, q.1 20, q.2 27, by rw [← h4.1]; exact h1, h2, h3, h4.2.1, fun j hj => ?_, h4.2.2.2, o.1, b.1⟩
  have := PR_get h4 hj
  rw [show 60 * 0 + j = j by omega] at this
  exact this
/-- emptied: size 0 -/
theorem oR_cut {g a : Nat} {M : xM} {ow : xOw} {l : RW} {n : Nat} (h : oRows M ow g a l) (hn : n ≤ l.length) : ∃ M', xput M a 9 0 (vi (nI n)) = some M' ∧ oRows M' ow g a (l.take n) ∧ stp (fun t => ¬ inP g 1 3 t) 0 0 ow M ow M' := by
  obtain ⟨ka, va, q, h1, h2, h3, h4, o, b⟩ := h
  have D : nd3 a ka va := ⟨ow_ne o.1 o.2.1 (by simp), ow_ne o.1 o.2.2 (by simp), ow_ne o.2.1 o.2.2 (by simp)⟩
  have e := pR_p (q := q) (M := M) D (nI n)
  rw [pRq_id h1 h2 h3] at e
  have hl := h4.2.1
  refine ⟨_, e, oRows_mk o b ⟨?_, ?_, ?_, ?_⟩, pRq_stp o⟩
  · rw [rup_at, List.length_take, Nat.min_eq_left hn]
  · rw [List.length_take]; omega
  · unfold rowsV
    rw [nu_of (rup_at _ _ _ _) (by omega)]
    rw [← h4.2.2.1]
    unfold rowsV
    apply List.ext_getElem?
    intro j
    by_cases hj : j < n
    · rw [win_get hj, List.getElem?_take, if_pos hj, win_get (by rw [PR_nu h4]; omega)]
      rfl
    · rw [List.getElem?_eq_none (by rw [win_len]; omega), List.getElem?_take, if_neg hj]
  · exact List.Pairwise.sublist (List.take_sublist _ _) h4.2.2.2
/-! Kept as an object -/
def oKept (M : xM) (ow : xOw) (g a : Nat) (K : Nat → KW) : Prop := ∃ (s c v w : Nat) (q : xrho), M.2.2 a = .inr (4, [vr (some s), vr (some c), vr (some v), vr (some w)]) ∧ M.2.2 s = .inl (0, 6, .inl (q.1 34)) ∧ M.2.2 c = .inl (0, 24, .inl (q.1 35)) ∧ M.2.2 v = .inl (1, 24, .inr (.inl (q.2 37))) ∧ M.2.2 w = .inl (0, 24, .inl (q.1 36)) ∧ (∀ i, i < 6 → CK q i (K i)) ∧ (ow a = (g, 4) ∧ ow s = (g, 5) ∧ ow c = (g, 6) ∧ ow v = (g, 7) ∧ ow w = (g, 8)) ∧ a < M.1 ∧ s < M.1 ∧ c < M.1 ∧ v < M.1 ∧ w < M.1
theorem oKept_f {P : Nat × Nat → Prop} {x y : Nat} {ow ow' : xOw} {M M' : xM} {g a : Nat} {K : Nat → KW} (h : oKept M ow g a K) (hs : stp P x y ow M ow' M') (hP : ∀ t, inP g 4 8 t → P t) : oKept M' ow' g a K := by
  obtain ⟨s, c, v, w, q, h1, h2, h3, h4, h5, h6, ⟨o1, o2, o3, o4, o5⟩, b1, b2, b3, b4, b5⟩ := h
  obtain ⟨s1, s2, s3, s4⟩ := hs
  refine ⟨s, c, v, w, q, ?_, ?_, ?_, ?_, ?_, h6, ⟨?_, ?_, ?_, ?_, ?_⟩, by omega, by omega, by omega, by omega, by omega⟩
  · rw [(s4 a b1).2 (hP _ (by rw [o1]; exact inP_i (by decide) (by decide)))]; exact h1
  · rw [(s4 s b2).2 (hP _ (by rw [o2]; exact inP_i (by decide) (by decide)))]; exact h2
  · rw [(s4 c b3).2 (hP _ (by rw [o3]; exact inP_i (by decide) (by decide)))]; exact h3
  · rw [(s4 v b4).2 (hP _ (by rw [o4]; exact inP_i (by decide) (by decide)))]; exact h4
  · rw [(s4 w b5).2 (hP _ (by rw [o5]; exact inP_i (by decide) (by decide)))]; exact h5
  · rw [(s4 a b1).1]; exact o1
  · rw [(s4 s b2).1]; exact o2
  · rw [(s4 c b3).1]; exact o3
  · rw [(s4 v b4).1]; exact o4
  · rw [(s4 w b5).1]; exact o5
theorem oKept_c {M : xM} {ow : xOw} {g a : Nat} {K K' : Nat → KW} (h : oKept M ow g a K) (e : ∀ i, i < 6 → K' i = K i) : oKept M ow g a K' := by
  obtain ⟨s, c, v, w, q, h1, h2, h3, h4, h5, h6, h7⟩ := h
  exact ⟨s, c, v, w, q, h1, h2, h3, h4, h5, fun i hi => by rw [e i hi]; exact h6 i hi, h7⟩
theorem pKq_id {a s c v w : Nat} {q : xrho} {M : xM} (h1 : M.2.2 a = .inr (4, [vr (some s), vr (some c), vr (some v), vr (some w)])) (h2 : M.2.2 s = .inl (0, 6, .inl (q.1 34))) (h3 : M.2.2 c = .inl (0, 24, .inl (q.1 35))) (h4 : M.2.2 v = .inl (1, 24, .inr (.inl (q.2 37)))) (h5 : M.2.2 w = .inl (0, 24, .inl (q.1 36))) : pKq a s c v w q M = M := by
  unfold pKq
  rw [xset_id h1, xset_id h2, xset_id h3, xset_id h4, xset_id h5]
abbrev owK (ow : xOw) (g a s c v w : Nat) : Prop := ow a = (g, 4) ∧ ow s = (g, 5) ∧ ow c = (g, 6) ∧ ow v = (g, 7) ∧ ow w = (g, 8)
theorem owK_nd {ow : xOw} {g a s c v w : Nat} (o : owK ow g a s c v w) : nd5 a s c v w := ⟨⟨ow_ne o.1 o.2.1 (by simp), ow_ne o.1 o.2.2.1 (by simp), ow_ne o.1 o.2.2.2.1 (by simp), ow_ne o.1 o.2.2.2.2 (by simp)⟩, ⟨ow_ne o.2.1 o.2.2.1 (by simp), ow_ne o.2.1 o.2.2.2.1 (by simp), ow_ne o.2.1 o.2.2.2.2 (by simp)⟩, ⟨ow_ne o.2.2.1 o.2.2.2.1 (by simp), ow_ne o.2.2.1 o.2.2.2.2 (by simp)⟩, ow_ne o.2.2.2.1 o.2.2.2.2 (by simp)⟩
theorem pKq_stp {a s c v w g : Nat} {q : xrho} {M : xM} {ow : xOw} (o : owK ow g a s c v w) : stp (fun t => ¬ inP g 4 8 t) 0 0 ow M ow (pKq a s c v w q M) := by
  unfold pKq
  have n : ∀ k, 4 ≤ k → k ≤ 8 → ¬ ¬ inP g 4 8 (g, k) := fun k h1 h2 h => h (inP_i h1 h2)
  refine stp_tr (x := 0) (y := 0) (stp_tr (x := 0) (y := 0) (stp_tr (x := 0) (y := 0) (stp_tr (x := 0) (y := 0) (stp_set ?_) (stp_set ?_)) (stp_set ?_)) (stp_set ?_)) (stp_set ?_)
  · rw [o.1]; exact n _ (by decide) (by decide)
  · rw [o.2.1]; exact n _ (by decide) (by decide)
  · rw [o.2.2.1]; exact n _ (by decide) (by decide)
  · rw [o.2.2.2.1]; exact n _ (by decide) (by decide)
  · rw [o.2.2.2.2]; exact n _ (by decide) (by decide)
theorem oKept_mk {a s c v w g : Nat} {q : xrho} {M : xM} {ow : xOw} {K : Nat → KW} (o : owK ow g a s c v w) (b : a < M.1 ∧ s < M.1 ∧ c < M.1 ∧ v < M.1 ∧ w < M.1) (h : ∀ i, i < 6 → CK q i (K i)) : oKept (pKq a s c v w q M) ow g a K := ⟨s, c, v, w, q, pK_o (owK_nd o), pK_s (owK_nd o), pK_cc (owK_nd o), pK_v (owK_nd o), pK_g, h, o, b⟩
theorem oK_keep {T0 MI g a c : Nat} {M : xM} {ow : xOw} {K : Nat → KW} {count sign : Int32} {w : Int64} {o4 o6 o7 : Option xV} (h : oKept M ow g a K) (hc : c < 6) : ∃ M', xZ T0 MI 37 0 [some (vr (some a)), some (vi (nI c)), some (vi count), some (vl w), o4, some (vi sign), o6, o7] [] M = some (none, M') ∧ oKept M' ow g a (va_up K c (keepL (K c) (count, w, sign))) ∧ stp (fun t => ¬ inP g 4 8 t) 0 0 ow M ow M' := by
  obtain ⟨s, cc, v, ww, q, h1, h2, h3, h4, h5, h6, o, b⟩ := h
  obtain ⟨q', e, k, f⟩ := c_kkeep (T0 := T0) (MI := MI) (M := M) (count := count) (w := w) (sign := sign) (o4 := o4) (o6 := o6) (o7 := o7) (owK_nd o) hc (h6 c hc)
  rw [pKq_id h1 h2 h3 h4 h5] at e
  refine ⟨_, e, oKept_mk o b (fun i hi => ?_), pKq_stp o⟩
  by_cases ei : i = c
  · subst ei
    rw [va_up_self]
    exact k
  · rw [va_up_ne _ _ ei]
    exact f i _ ei (h6 i hi)
theorem oK_find {T0 MI g a c : Nat} {M : xM} {ow : xOw} {K : Nat → KW} {count : Int32} {o3 o4 : Option xV} (h : oKept M ow g a K) (hc : c < 6) : ∃ x : Int32, xZ T0 MI 35 0 [some (vr (some a)), some (vi (nI c)), some (vi count), o3, o4] [] M = some (some (vi x), M) ∧ match lkp Prod.fst count (K c) with
    | none => x < 0
    | some y => ∃ (j v w : Nat) (fv : Nat → Int64) (fw : Nat → Int32), x = nI j ∧ j < 24 ∧ xgetR M a 4 2 = some (some v) ∧ xgetR M a 4 3 = some (some w) ∧ M.2.2 v = .inl (1, 24, .inr (.inl fv)) ∧ M.2.2 w = .inl (0, 24, .inl fw) ∧ fv j = y.2.1 ∧ fw j = y.2.2 := by
  obtain ⟨s, cc, v, ww, q, h1, h2, h3, h4, h5, h6, o, b⟩ := h
  have hK := h6 c hc
  have e := c_kfind (T0 := T0) (MI := MI) (M := M) (count := count) (o3 := o3) (o4 := o4) (owK_nd o) hc hK.2.1 hK.1
  rw [pKq_id h1 h2 h3 h4 h5] at e
  refine ⟨_, e, ?_⟩
  have hl := CK_lkp hK count
  cases ho : rfnd (fun j => q.1 35 (4 * c + j)) count 0 (K c).length with
  | none =>
    rw [ho] at hl
    dsimp only at hl
    rw [hl]
    exact (by decide : Int32.ofInt (-1) < 0)
  | some j =>
    rw [ho] at hl
    dsimp only at hl
    rw [hl.2]
    exact ⟨4 * c + j, v, ww, q.2 37, q.1 36, rfl, by have := hl.1; omega, gR h1 2 rfl, gR h1 3 rfl, h4, h5, rfl, rfl⟩
theorem oK_below {T0 MI g a c : Nat} {M : xM} {ow : xOw} {K : Nat → KW} {count : Int32} (h : oKept M ow g a K) (hc : c < 6) : xZ T0 MI 36 0 [some (vr (some a)), some (vi (nI c)), some (vi count)] [] M = some (some (vi (tI (oldK (K c) count))), M) := by
  obtain ⟨s, cc, v, ww, q, h1, h2, h3, h4, h5, h6, o, b⟩ := h
  have e := c_below (T0 := T0) (MI := MI) (M := M) (count := count) (owK_nd o) hc (h6 c hc)
  rw [pKq_id h1 h2 h3 h4 h5] at e
  exact e
theorem oK_forget {T0 MI g a : Nat} {M : xM} {ow : xOw} {K : Nat → KW} (h : oKept M ow g a K) : ∃ M', xZ T0 MI 41 0 [some (vr (some a))] [] M = some (none, M') ∧ oKept M' ow g a (fun _ => []) ∧ stp (fun t => ¬ inP g 4 8 t) 0 0 ow M ow M' := by
  obtain ⟨s, cc, v, ww, q, h1, h2, h3, h4, h5, h6, o, b⟩ := h
  obtain ⟨q', e, k⟩ := c_forget (T0 := T0) (MI := MI) (M := M) (q := q) (owK_nd o)
  rw [pKq_id h1 h2 h3 h4 h5] at e
  exact ⟨_, e, oKept_mk o b k, pKq_stp o⟩
theorem oK_total {T0 MI g a : Nat} {M : xM} {ow : xOw} {K : Nat → KW} {o1 o2 : Option xV} (h : oKept M ow g a K) : xZ T0 MI 42 0 [some (vr (some a)), o1, o2] [] M = some (some (vi (nI ((K 0).length + (K 1).length + (K 2).length + (K 3).length + (K 4).length + (K 5).length))), M) := by
  obtain ⟨s, cc, v, ww, q, h1, h2, h3, h4, h5, h6, o, b⟩ := h
  have e := c_total (T0 := T0) (MI := MI) (M := M) (o1 := o1) (o2 := o2) (owK_nd o) h6
  rw [pKq_id h1 h2 h3 h4 h5] at e
  exact e
theorem oK_become {T0 MI g g' a a' : Nat} {M : xM} {ow : xOw} {K K' : Nat → KW} (h : oKept M ow g a K) (h' : oKept M ow g' a' K') (hg : g ≠ g') : ∃ M', xZ T0 MI 40 0 [some (vr (some a)), some (vr (some a'))] [] M = some (none, M') ∧ oKept M' ow g a K' ∧ stp (fun t => ¬ inP g 4 8 t) 0 0 ow M ow M' := by
  obtain ⟨s, cc, v, ww, q, h1, h2, h3, h4, h5, h6, o, b⟩ := h
  obtain ⟨s', cc', v', ww', q', h1', h2', h3', h4', h5', h6', o', b'⟩ := h'
  have e := c_become (T0 := T0) (MI := MI) (M := M) (q := q) (owK_nd o) h1' h2' h3' h4' h5' (fun x hx => by
    have hx' : (ow x).1 = g' := by
      rcases hx with rfl | rfl | rfl | rfl | rfl
      · rw [o'.1]
      · rw [o'.2.1]
      · rw [o'.2.2.1]
      · rw [o'.2.2.2.1]
      · rw [o'.2.2.2.2]
    have n : ∀ y k, ow y = (g, k) → x ≠ y := fun y k hy e => hg (by rw [← e] at hy; rw [hy] at hx'; exact hx')
    exact ⟨n _ _ o.1, n _ _ o.2.1, n _ _ o.2.2.1, n _ _ o.2.2.2.1, n _ _ o.2.2.2.2⟩)
  rw [pKq_id h1 h2 h3 h4 h5] at e
  exact ⟨_, e, oKept_mk o b (fun i hi => CK_kcp hi (h6' i hi)), pKq_stp o⟩
theorem oK_join {T0 MI g g' a a' : Nat} {M : xM} {ow : xOw} {K K' : Nat → KW} {o2 o3 o4 : Option xV} (h : oKept M ow g a K) (h' : oKept M ow g' a' K') (hg : g ≠ g') : ∃ M', xZ T0 MI 39 0 [some (vr (some a)), some (vr (some a')), o2, o3, o4] [] M = some (none, M') ∧ oKept M' ow g a (fun c => (K' c).foldl keepL (K c)) ∧ stp (fun t => ¬ inP g 4 8 t) 0 0 ow M ow M' := by
  obtain ⟨s, cc, v, ww, q, h1, h2, h3, h4, h5, h6, o, b⟩ := h
  obtain ⟨s', cc', v', ww', q', h1', h2', h3', h4', h5', h6', o', b'⟩ := h'
  obtain ⟨q2, e, k⟩ := c_join (T0 := T0) (MI := MI) (M := M) (q := q) (o2 := o2) (o3 := o3) (o4 := o4) (owK_nd o) h1' h2' h3' h4' h5' (fun x hx => by
    have hx' : (ow x).1 = g' := by
      rcases hx with rfl | rfl | rfl | rfl | rfl
      · rw [o'.1]
      · rw [o'.2.1]
      · rw [o'.2.2.1]
      · rw [o'.2.2.2.1]
      · rw [o'.2.2.2.2]
    have n : ∀ y k, ow y = (g, k) → x ≠ y := fun y k hy e => hg (by rw [← e] at hy; rw [hy] at hx'; exact hx')
    exact ⟨n _ _ o.1, n _ _ o.2.1, n _ _ o.2.2.1, n _ _ o.2.2.2.1, n _ _ o.2.2.2.2⟩) h6' h6
  rw [pKq_id h1 h2 h3 h4 h5] at e
  exact ⟨_, e, oKept_mk o b k, pKq_stp o⟩
