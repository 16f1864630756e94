/-! what the second loop leaves -/
def rkW (vs : List SV) (t w : SV) : Prop := (w ∈ vs ∧ ¬ svSh w t) ∨ (∃ v ∈ vs, svSh v t ∧ v.2.1 < t.2.1 ∧ w = (v.1, v.2.1, t.2.1, v.2.2.2.1, v.2.2.2.2)) ∨ (∃ v ∈ vs, svSh v t ∧ t.2.2.1 < v.2.2.1 ∧ w = (v.1, t.2.2.1, v.2.2.1, v.2.2.2.1, v.2.2.2.2))
theorem svL_mem {v t w : SV} (h : w ∈ svL v t) : v.2.1 < t.2.1 ∧ w = (v.1, v.2.1, t.2.1, v.2.2.2.1, v.2.2.2.2) := by
  unfold svL at h
  split at h
  · exact ⟨by assumption, List.mem_singleton.mp h⟩
  · exact absurd h List.not_mem_nil
theorem svR_mem {v t w : SV} (h : w ∈ svR v t) : t.2.2.1 < v.2.2.1 ∧ w = (v.1, t.2.2.1, v.2.2.1, v.2.2.2.1, v.2.2.2.2) := by
  unfold svR at h
  split at h
  · exact ⟨by assumption, List.mem_singleton.mp h⟩
  · exact absurd h List.not_mem_nil
theorem corR_mem {vs : List SV} {t : SV} : ∀ j, j ≤ vs.length → ∀ r, (∀ w ∈ r, rkW vs t w) → ∀ w ∈ corR t j vs r, rkW vs t w
  | 0, _, r, hr => hr
  | j + 1, hj, r, hr => by
    have hjv : j < vs.length := by omega
    have ec : corR t (j + 1) vs r = corR t j vs (if svSh vs[j] t then r ++ (svL vs[j] t ++ svR vs[j] t) else vs[j] :: r) := by
      show (match vs[j]? with
        | none => r
        | some v => corR t j vs (if svSh v t then r ++ (svL v t ++ svR v t) else v :: r)) = _
      rw [List.getElem?_eq_getElem hjv]
    rw [ec]
    refine corR_mem j (by omega) _ (fun w hw => ?_)
    by_cases c : svSh vs[j] t
    · rw [if_pos c] at hw
      rcases List.mem_append.mp hw with h | h
      · exact hr w h
      · rcases List.mem_append.mp h with h | h
        · exact Or.inr (Or.inl ⟨_, List.getElem_mem hjv, c, svL_mem h⟩)
        · exact Or.inr (Or.inr ⟨_, List.getElem_mem hjv, c, svR_mem h⟩)
    · rw [if_neg c] at hw
      rcases List.mem_cons.mp hw with h | h
      · rw [h]
        exact Or.inl ⟨List.getElem_mem hjv, c⟩
      · exact hr w h
/-- length -/
theorem corR_len {vs : List SV} {t : SV} : ∀ j, j ≤ vs.length → ∀ r, (corR t j vs r).length + nsh t (vs.take j) = j + r.length + npcs t (vs.take j)
  | 0, _, r => by
    show r.length + 0 = 0 + r.length + 0
    omega
  | j + 1, hj, r => by
    have hjv : j < vs.length := by omega
    have et : vs.take (j + 1) = vs.take j ++ [vs[j]] := by rw [List.take_succ_eq_append_getElem hjv]
    have ec : corR t (j + 1) vs r = corR t j vs (if svSh vs[j] t then r ++ (svL vs[j] t ++ svR vs[j] t) else vs[j] :: r) := by
      show (match vs[j]? with
        | none => r
        | some v => corR t j vs (if svSh v t then r ++ (svL v t ++ svR v t) else v :: r)) = _
      rw [List.getElem?_eq_getElem hjv]
    have ih := corR_len (vs := vs) (t := t) j (by omega) (if svSh vs[j] t then r ++ (svL vs[j] t ++ svR vs[j] t) else vs[j] :: r)
    rw [ec, et, npcs_app, nsh_app]
    have nl : npc vs[j] t = (svL vs[j] t ++ svR vs[j] t).length := by
      unfold npc svL svR
      rw [List.length_append]
      split <;> split <;> rfl
    by_cases c : svSh vs[j] t
    · rw [if_pos c] at ih
      rw [if_pos c, if_pos c, if_pos c]
      rw [List.length_append, ← nl] at ih
      omega
    · rw [if_neg c] at ih
      rw [if_neg c, if_neg c, if_neg c]
      rw [List.length_cons] at ih
      omega
theorem svD_s {v w : SV} (h : svD v w) : svD w v := h.symm
/-- disjoint -/
theorem corR_pw {vs : List SV} {t : SV} (ht : t.2.1 ≤ t.2.2.1) : ∀ j, j ≤ vs.length → ∀ r, (vs.take j ++ r).Pairwise svD → (corR t j vs r).Pairwise svD
  | 0, _, r, hr => hr
  | j + 1, hj, r, hr => by
    have hjv : j < vs.length := by omega
    have et : vs.take (j + 1) = vs.take j ++ [vs[j]] := by rw [List.take_succ_eq_append_getElem hjv]
    have ec : corR t (j + 1) vs r = corR t j vs (if svSh vs[j] t then r ++ (svL vs[j] t ++ svR vs[j] t) else vs[j] :: r) := by
      show (match vs[j]? with
        | none => r
        | some v => corR t j vs (if svSh v t then r ++ (svL v t ++ svR v t) else v :: r)) = _
      rw [List.getElem?_eq_getElem hjv]
    rw [ec]
    rw [et, List.append_assoc] at hr
    refine corR_pw ht j (by omega) _ ?_
    by_cases c : svSh vs[j] t
    · rw [if_pos c]
      obtain ⟨p1, p2, p3⟩ := List.pairwise_append.mp hr
      have p2' := List.pairwise_cons.mp p2
      -- a piece is within v
      have pc : ∀ w ∈ svL vs[j] t ++ svR vs[j] t, vs[j].2.1 ≤ w.2.1 ∧ w.2.2.1 ≤ vs[j].2.2.1 := fun w hw => by
        rcases List.mem_append.mp hw with h | h
        · obtain ⟨x1, x2⟩ := svL_mem h
          rw [x2]
          have := c.2
          exact ⟨Nat.le_refl _, by show t.2.1 ≤ _; omega⟩
        · obtain ⟨x1, x2⟩ := svR_mem h
          rw [x2]
          have := c.1
          exact ⟨by show _ ≤ t.2.2.1; omega, Nat.le_refl _⟩
      have dj : ∀ u, svD u vs[j] → ∀ w ∈ svL vs[j] t ++ svR vs[j] t, svD u w := fun u hu w hw => by
        obtain ⟨x1, x2⟩ := pc w hw
        rcases hu with h | h
        · exact Or.inl (by omega)
        · exact Or.inr (by omega)
      rw [← List.append_assoc]
      refine List.pairwise_append.mpr ⟨List.pairwise_append.mpr ⟨p1, p2'.2, fun u hu w hw => p3 u hu w (by simp [hw])⟩, ?_, fun u hu w hw => ?_⟩
      · unfold svL svR
        split <;> split <;> simp [svD]
        exact Or.inl ht
      · refine dj u ?_ w hw
        rcases List.mem_append.mp hu with h | h
        · exact p3 u h _ (by simp)
        · exact svD_s (p2'.1 u h)
    · rw [if_neg c]
      exact hr
/-- all keys but those of t -/
theorem corR_cov {vs : List SV} {t : SV} {k : Nat} (hk : ¬ svH t k) : ∀ j, j ≤ vs.length → ∀ r, (∃ w ∈ vs.take j ++ r, svH w k) → ∃ w ∈ corR t j vs r, svH w k
  | 0, _, r, hr => hr
  | j + 1, hj, r, hr => by
    have hjv : j < vs.length := by omega
    have et : vs.take (j + 1) = vs.take j ++ [vs[j]] := by rw [List.take_succ_eq_append_getElem hjv]
    have ec : corR t (j + 1) vs r = corR t j vs (if svSh vs[j] t then r ++ (svL vs[j] t ++ svR vs[j] t) else vs[j] :: r) := by
      show (match vs[j]? with
        | none => r
        | some v => corR t j vs (if svSh v t then r ++ (svL v t ++ svR v t) else v :: r)) = _
      rw [List.getElem?_eq_getElem hjv]
    rw [ec]
    rw [et, List.append_assoc] at hr
    refine corR_cov hk j (by omega) _ ?_
    obtain ⟨w, hw, hwk⟩ := hr
    by_cases c : svSh vs[j] t
    · rw [if_pos c]
      rcases List.mem_append.mp hw with h | h
      · exact ⟨w, List.mem_append_left _ h, hwk⟩
      · rcases List.mem_cons.mp h with h | h
        · rw [h] at hwk
          have hk' : k < t.2.1 ∨ t.2.2.1 ≤ k := by
            apply Decidable.byContradiction
            intro hc
            exact hk ⟨by omega, by omega⟩
          rcases hk' with h1 | h1
          · refine ⟨(vs[j].1, vs[j].2.1, t.2.1, vs[j].2.2.2.1, vs[j].2.2.2.2), ?_, hwk.1, h1⟩
            have : vs[j].2.1 < t.2.1 := by have := hwk.1; omega
            refine List.mem_append_right _ (List.mem_append_right _ (List.mem_append_left _ ?_))
            unfold svL
            rw [if_pos this]
            simp
          · refine ⟨(vs[j].1, t.2.2.1, vs[j].2.2.1, vs[j].2.2.2.1, vs[j].2.2.2.2), ?_, h1, hwk.2⟩
            have : t.2.2.1 < vs[j].2.2.1 := by have := hwk.2; omega
            refine List.mem_append_right _ (List.mem_append_right _ (List.mem_append_right _ ?_))
            unfold svR
            rw [if_pos this]
            simp
        · exact ⟨w, List.mem_append_right _ (List.mem_append_left _ h), hwk⟩
    · rw [if_neg c]
      exact ⟨w, hw, hwk⟩
/-- at most one has a key -/
theorem sum_le1 {f : SV → Nat} {k : Nat} (hf : ∀ v, f v ≤ 1) : ∀ (l : List SV), l.Pairwise svD → (∀ v ∈ l, f v = 1 → svH v k) → (l.map f).sum ≤ 1
  | [], _, _ => by simp
  | v :: l, hp, hh => by
    have hp' := List.pairwise_cons.mp hp
    have ih := sum_le1 (k := k) hf l hp'.2 (fun w hw => hh w (by simp [hw]))
    rw [List.map_cons, List.sum_cons]
    by_cases c : f v = 1
    · have hk := hh v (by simp) c
      have z : (l.map f).sum = 0 := by
        have : ∀ (m : List SV), (∀ w ∈ m, f w = 0) → (m.map f).sum = 0 := by
          intro m
          induction m with
          | nil => intro _; rfl
          | cons w m ih =>
            intro hm
            rw [List.map_cons, List.sum_cons, hm w (by simp), ih (fun u hu => hm u (by simp [hu]))]
        refine this l (fun w hw => ?_)
        apply Decidable.byContradiction
        intro hn
        have h1 : f w = 1 := by have := hf w; omega
        have hkw := hh w (by simp [hw]) h1
        have h1 := hk.1
        have h2 := hk.2
        have h3 := hkw.1
        have h4 := hkw.2
        rcases hp'.1 w hw with h | h <;> omega
      omega
    · have := hf v
      omega
theorem npcs_le {vs : List SV} {t : SV} (hp : vs.Pairwise svD) : npcs t vs ≤ 2 := by
  have h1 := sum_le1 (f := fun v => if svSh v t ∧ v.2.1 < t.2.1 then 1 else 0) (k := t.2.1) (fun v => by split <;> omega) vs hp (fun v _ hv => by
    split at hv
    · rename_i h
      exact ⟨by omega, h.1.2⟩
    · cases hv)
  have h2 := sum_le1 (f := fun v => if svSh v t ∧ t.2.2.1 < v.2.2.1 then 1 else 0) (k := t.2.2.1) (fun v => by split <;> omega) vs hp (fun v _ hv => by
    split at hv
    · rename_i h
      exact ⟨Nat.le_of_lt h.1.1, h.2⟩
    · cases hv)
  have e : ∀ l : List SV, npcs t l = (l.map (fun v => if svSh v t ∧ v.2.1 < t.2.1 then 1 else 0)).sum + (l.map (fun v => if svSh v t ∧ t.2.2.1 < v.2.2.1 then 1 else 0)).sum := by
    intro l
    induction l with
    | nil => rfl
    | cons v l ih =>
      unfold npcs at ih ⊢
      rw [List.map_cons, List.sum_cons, List.map_cons, List.sum_cons, List.map_cons, List.sum_cons, ih]
      have : (if svSh v t then npc v t else 0) = (if svSh v t ∧ v.2.1 < t.2.1 then 1 else 0) + (if svSh v t ∧ t.2.2.1 < v.2.2.1 then 1 else 0) := by
        unfold npc
        by_cases c : svSh v t
        · rw [if_pos c]
          congr 1
          · by_cases d : v.2.1 < t.2.1
            · rw [if_pos d, if_pos ⟨c, d⟩]
            · rw [if_neg d, if_neg (fun e => d e.2)]
          · by_cases d : t.2.2.1 < v.2.2.1
            · rw [if_pos d, if_pos ⟨c, d⟩]
            · rw [if_neg d, if_neg (fun e => d e.2)]
        · rw [if_neg c, if_neg (fun e => c e.1), if_neg (fun e => c e.1)]
      omega
  rw [e vs]
  omega
theorem nsh_pos {vs : List SV} {t : SV} (h : ∃ v ∈ vs, svSh v t) : 1 ≤ nsh t vs := by
  obtain ⟨v, hv, hs⟩ := h
  induction vs with
  | nil => exact absurd hv List.not_mem_nil
  | cons w vs ih =>
    unfold nsh
    rw [List.map_cons, List.sum_cons]
    rcases List.mem_cons.mp hv with e | e
    · rw [← e, if_pos hs]
      omega
    · have := ih e
      unfold nsh at this
      omega
/-! the copy's keys -/
theorem fil1_v (f : Nat) (q : xrho) (a z : Nat) (v : Int32) (k x : Nat) : (fil1 f q a z v).1 k x = if k = f ∧ a ≤ x ∧ x < z then v else q.1 k x := by
  unfold fil1
  dsimp only
  by_cases e : k = f
  · subst e
    rw [va_up_self]
    unfold filK
    by_cases c : a ≤ x ∧ x < z
    · rw [if_pos c, if_pos ⟨rfl, c⟩]
    · rw [if_neg c, if_neg (fun h => c h.2)]
  · rw [va_up_ne _ _ e, if_neg (fun h => e h.1)]
theorem goldq_in {q : xrho} {c fr to fi la k : Nat} {r e h : Int32} (h1 : fr ≤ k) (h2 : k < to) : (goldq q c fr to fi la r e h).1 55 (10000 * c + k) = r ∧ (goldq q c fr to fi la r e h).1 56 (10000 * c + k) = e ∧ (goldq q c fr to fi la r e h).1 57 (10000 * c + k) = h ∧ (goldq q c fr to fi la r e h).1 58 (10000 * c + k) = nI fr ∧ (goldq q c fr to fi la r e h).1 59 (10000 * c + k) = nI to := by
  unfold goldq
  obtain ⟨a1, a2, a3, a4, a5⟩ := cps_5 (q := fil1 58 (fil1 59 q (10000 * c + fi) (10000 * c + fr) (nI fr)) (10000 * c + to) (10000 * c + la) (nI to)) (a := 10000 * c + fr) (z := 10000 * c + to) (x := 10000 * c + k) (r := r) (e := e) (h := h) (lo := nI fr) (hi := nI to)
  rw [a1, a2, a3, a4, a5, if_pos (by omega), if_pos (by omega), if_pos (by omega), if_pos (by omega), if_pos (by omega)]
  exact ⟨rfl, rfl, rfl, rfl, rfl⟩
theorem goldq_out {q : xrho} {c fr to fi la k : Nat} {r e h : Int32} (hk : ¬ (fr ≤ k ∧ k < to)) (f : Nat) : (goldq q c fr to fi la r e h).1 f (10000 * c + k) = if f = 58 ∧ to ≤ k ∧ k < la then nI to else if f = 59 ∧ fi ≤ k ∧ k < fr then nI fr else q.1 f (10000 * c + k) := by
  unfold goldq
  rw [cps_out (by omega), fil1_v, fil1_v]
  congr 1
  · exact propext ⟨fun h => ⟨h.1, by omega, by omega⟩, fun h => ⟨h.1, by omega, by omega⟩⟩
  · congr 1
    exact propext ⟨fun h => ⟨h.1, by omega, by omega⟩, fun h => ⟨h.1, by omega, by omega⟩⟩
theorem cpV_gold {q : xrho} {c : Nat} {vs ws : List SV} {t : SV} {fi la : Nat} (H : cpV q c vs) (ht : t.2.1 < t.2.2.1 ∧ t.2.2.1 ≤ 10000) (hfi : ∀ v ∈ vs, svH v t.2.1 → v.2.1 = fi) (hla : ∀ v ∈ vs, svH v (t.2.2.1 - 1) → v.2.2.1 = la) (hw : ∀ w ∈ ws, rkW vs t w) (hp : ws.Pairwise svD) (hc : ∀ k, k < 10000 → ¬ svH t k → ∃ w ∈ ws, svH w k) : cpV (goldq q c t.2.1 t.2.2.1 fi la t.1 t.2.2.2.1 t.2.2.2.2) c (ws ++ [t]) := by
  obtain ⟨H1, H2, H3⟩ := H
  have dis : ∀ v ∈ vs, ∀ w ∈ vs, v ≠ w → svD v w := fun v hv w hw2 hne => by
    obtain ⟨i, hi, rfl⟩ := List.getElem_of_mem hv
    obtain ⟨j, hj, rfl⟩ := List.getElem_of_mem hw2
    rcases Nat.lt_or_ge i j with h | h
    · exact List.pairwise_iff_getElem.mp H2 i j hi hj h
    · rcases Nat.lt_or_eq_of_le h with h | h
      · exact svD_s (List.pairwise_iff_getElem.mp H2 j i hj hi h)
      · subst h
        exact absurd rfl hne
  -- the spots at the ends
  obtain ⟨v0, hv0, h0⟩ := H3 t.2.1 (by omega)
  obtain ⟨v1, hv1, h1⟩ := H3 (t.2.2.1 - 1) (by omega)
  have f0 := hfi v0 hv0 h0
  have l1 := hla v1 hv1 h1
  have q0 := H1 v0 hv0
  have q1 := H1 v1 hv1
  have svQ_ns : ∀ v ∈ vs, ¬ svSh v t → svQ (goldq q c t.2.1 t.2.2.1 fi la t.1 t.2.2.2.1 t.2.2.2.2) c v := fun v hv hns => by
    obtain ⟨x1, x2, x3⟩ := H1 v hv
    have hcase : v.2.2.1 ≤ t.2.1 ∨ t.2.2.1 ≤ v.2.1 := by
      apply Decidable.byContradiction
      intro hc
      exact hns ⟨by omega, by omega⟩
    refine ⟨x1, x2, fun k hk => ?_⟩
    have hko : ¬ (t.2.1 ≤ k ∧ k < t.2.2.1) := by
      have := hk.1
      have := hk.2
      rcases hcase with h | h <;> omega
    obtain ⟨y1, y2, y3, y4, y5⟩ := x3 k hk
    rw [goldq_out hko, goldq_out hko, goldq_out hko, goldq_out hko, goldq_out hko]
    have n58 : ¬ (t.2.2.1 ≤ k ∧ k < la) := fun h => by
      have a1 := hk.1
      have a2 := hk.2
      have b1 := h1.1
      have b2 := h1.2
      have hne : v ≠ v1 := fun e => by
        rw [e] at hcase
        rcases hcase with h | h <;> omega
      rcases dis v hv v1 hv1 hne with d | d <;> omega
    have n59 : ¬ (fi ≤ k ∧ k < t.2.1) := fun h => by
      have a1 := hk.1
      have a2 := hk.2
      have b1 := h0.1
      have b2 := h0.2
      have hne : v ≠ v0 := fun e => by
        rw [e] at hcase
        rcases hcase with h | h <;> omega
      rcases dis v hv v0 hv0 hne with d | d <;> omega
    rw [if_neg (by omega), if_neg (by omega), if_neg (by omega), if_neg (by omega), if_neg (by omega), if_neg (by omega), if_neg (by omega), if_neg (by omega), if_neg (by omega), if_neg (by omega)]
    exact ⟨y1, y2, y3, y4, y5⟩
  refine ⟨fun w hw2 => ?_, ?_, fun k hk => ?_⟩
  · rcases List.mem_append.mp hw2 with h | h
    · rcases hw w h with ⟨a1, a2⟩ | ⟨v, hv, a1, a2, rfl⟩ | ⟨v, hv, a1, a2, rfl⟩
      · exact svQ_ns w a1 a2
      · obtain ⟨x1, x2, x3⟩ := H1 v hv
        have hvf := hfi v hv ⟨by omega, a1.2⟩
        refine ⟨a2, by show t.2.1 ≤ _; omega, fun k hk => ?_⟩
        have k1 : v.2.1 ≤ k := hk.1
        have k2 : k < t.2.1 := hk.2
        have hko : ¬ (t.2.1 ≤ k ∧ k < t.2.2.1) := by omega
        obtain ⟨y1, y2, y3, y4, y5⟩ := x3 k ⟨k1, by have := a1.2; omega⟩
        rw [goldq_out hko, goldq_out hko, goldq_out hko, goldq_out hko, goldq_out hko]
        rw [if_neg (by omega), if_neg (by omega), if_neg (by omega), if_neg (by omega), if_neg (by omega), if_neg (by omega), if_neg (by omega), if_neg (by omega), if_neg (by omega), if_pos (by omega)]
        exact ⟨y1, y2, y3, y4, rfl⟩
      · obtain ⟨x1, x2, x3⟩ := H1 v hv
        have hvl := hla v hv ⟨by have := a1.1; omega, by omega⟩
        refine ⟨a2, x2, fun k hk => ?_⟩
        have k1 : t.2.2.1 ≤ k := hk.1
        have k2 : k < v.2.2.1 := hk.2
        have hko : ¬ (t.2.1 ≤ k ∧ k < t.2.2.1) := by omega
        obtain ⟨y1, y2, y3, y4, y5⟩ := x3 k ⟨by have := a1.1; omega, k2⟩
        rw [goldq_out hko, goldq_out hko, goldq_out hko, goldq_out hko, goldq_out hko]
        rw [if_neg (by omega), if_neg (by omega), if_neg (by omega), if_neg (by omega), if_neg (by omega), if_neg (by omega), if_pos (by omega), if_neg (by omega), if_neg (by omega)]
        exact ⟨y1, y2, y3, rfl, y5⟩
    · rw [List.mem_singleton.mp h]
      exact ⟨ht.1, ht.2, fun k hk => goldq_in hk.1 hk.2⟩
  · refine List.pairwise_append.mpr ⟨hp, by simp, fun w hw2 u hu => ?_⟩
    rw [List.mem_singleton.mp hu]
    rcases hw w hw2 with ⟨a1, a2⟩ | ⟨v, hv, a1, a2, rfl⟩ | ⟨v, hv, a1, a2, rfl⟩
    · apply Decidable.byContradiction
      intro hc
      exact a2 ⟨Nat.lt_of_not_le (fun h => hc (Or.inr h)), Nat.lt_of_not_le (fun h => hc (Or.inl h))⟩
    · exact Or.inl (Nat.le_refl _)
    · exact Or.inr (Nat.le_refl _)
  · by_cases ck : svH t k
    · exact ⟨t, by simp, ck⟩
    · obtain ⟨w, w1, w2⟩ := hc k hk ck
      exact ⟨w, List.mem_append_left _ w1, w2⟩
