/-! frames of the components -/
def qeL (lo hi : Nat) (q q' : xrho) : Prop := ∀ k i, lo ≤ k → k ≤ hi → q'.2 k i = q.2 k i
theorem qeL_rf (lo hi : Nat) (q : xrho) : qeL lo hi q q := fun _ _ _ _ => rfl
theorem qeL_up {lo hi : Nat} {q q' : xrho} {k i : Nat} {x : Int32} (h : qeL lo hi q q') : qeL lo hi q (rup q' k i x) := h
theorem qeL_upL {lo hi : Nat} {q q' : xrho} {k i : Nat} {x : Int64} (h : qeL lo hi q q') (hk : k < lo ∨ hi < k) : qeL lo hi q (rupL q' k i x) := fun f j h1 h2 => by
  have : f ≠ k := by omega
  show va_up q'.2 k _ f j = _
  rw [va_up_ne _ _ this]
  exact h f j h1 h2
theorem hs_of {q q' : xrho} {L L' : xLs} {pk pk' : Nat → Option Nat} {p : Nat} (e1 : qe 15 18 q q') (e2 : qe 21 23 q q') (e3 : qe 29 33 q q') (l1 : L'.1 p = L.1 p) (l2 : L'.2.1 p = L.2.1 p) (l3 : ∀ c, c < 6 → L'.2.2.1 (6 * p + c) = L.2.2.1 (6 * p + c)) (hp : (q.1 15 p = nI 2 ∨ q.1 15 p = nI 3) → q.1 32 p = 0 → pk' (nu q 29 p) = pk (nu q 29 p)) : hsame q L pk p q' L' pk' := ⟨fun k hk => by
  rcases hk with h | h | h
  · exact e1 k p h.1 h.2
  · exact e2 k p h.1 h.2
  · exact e3 k p h.1 h.2, l1, l2, l3, hp⟩
theorem hs_rf (q : xrho) (L : xLs) (pk : Nat → Option Nat) (p : Nat) : hsame q L pk p q L pk := ⟨fun _ _ => rfl, rfl, rfl, fun _ _ => rfl, fun _ _ => rfl⟩
abbrev inH (P : Nat × Nat → Prop) : Prop := (∀ t : Nat × Nat, 10 ≤ t.1 → t.1 < 16 → P t) ∧ (∀ t : Nat × Nat, 100 ≤ t.1 → t.1 < 340 → P t) ∧ (∀ t : Nat × Nat, t.1 = 8 → P t) ∧ ∀ t : Nat × Nat, t.1 = 9999 → P t
theorem FT_f {P : Nat × Nat → Prop} {x y T0 : Nat} {ow ow' : xOw} {M M' : xM} {fh : Nat → Option Nat} {q q' : xrho} {L L' : xLs} {pk pk' : Nat → Option Nat} (H : FT T0 M ow fh q L pk) (hs : stp P x y ow M ow' M') (hP : inH P) (e0 : qe 0 0 q q') (e : qe 38 44 q q') (eh : ∀ p, p < 240 → hsame q L pk p q' L' pk') : FT T0 M' ow' fh q' L' pk' := by
  intro h hh
  obtain ⟨a, f, h1, h2, h3⟩ := H h hh
  refine ⟨a, f, h1, rHost_f h2 hs (fun t ht => hP.1 t (by omega) (by omega)) hP.2.2.1 hP.2.2.2 (e0 0 h (Nat.le_refl _) (Nat.le_refl _)) e, fun r hr => rHold_f (h3 r hr) hs (fun t ht => hP.2.1 t (by omega) (by omega)) (eh _ (by omega))⟩
theorem obits_e {q q' : xrho} (e : qe 9 9 q q') (r : Nat) : obits q' r = obits q r := by
  unfold obits obit
  rw [e 9 _ (Nat.le_refl _) (Nat.le_refl _), e 9 _ (Nat.le_refl _) (Nat.le_refl _), e 9 _ (Nat.le_refl _) (Nat.le_refl _), e 9 _ (Nat.le_refl _) (Nat.le_refl _)]
theorem rPage_f {P : Nat × Nat → Prop} {x y r : Nat} {ow ow' : xOw} {M M' : xM} {o : Option Nat} {q q' : xrho} (H : rPage M ow r o q) (hs : stp P x y ow M ow' M') (hP : ∀ t : Nat × Nat, t.1 = 400 + r → P t) (h9 : ∀ t : Nat × Nat, t.1 = 9999 → P t) (e : ∀ k, 2 ≤ k → k ≤ 11 → k ≠ 9 → q'.1 k r = q.1 k r) (e9 : obits q' r = obits q r) : rPage M' ow' r o q' := by
  cases o with
  | none =>
    show q'.1 2 r = 0
    rw [e 2 (by decide) (by decide) (by decide)]
    exact H
  | some a =>
    obtain ⟨h1, s, gi, ta, uw, ⟨h2, o2, b2⟩, h3, h4⟩ := H
    show q'.1 2 r = 1 ∧ _
    rw [e9, e 2 (by decide) (by decide) (by decide), e 3 (by decide) (by decide) (by decide), e 4 (by decide) (by decide) (by decide), e 5 (by decide) (by decide) (by decide), e 6 (by decide) (by decide) (by decide), e 7 (by decide) (by decide) (by decide), e 8 (by decide) (by decide) (by decide), e 10 (by decide) (by decide) (by decide), e 11 (by decide) (by decide) (by decide)]
    refine ⟨h1, s, gi, ta, uw, ⟨?_, ?_, ?_⟩, isSpot_f h3 hs h9, h4⟩
    · rw [(hs.2.2.2 _ b2).2 (hP _ (by rw [o2]))]; exact h2
    · rw [(hs.2.2.2 _ b2).1]; exact o2
    · have := hs.1; omega
theorem FP_f {P : Nat × Nat → Prop} {x y : Nat} {ow ow' : xOw} {M M' : xM} {fp : Nat → Option Nat} {q q' : xrho} (H : FP M ow fp q) (hs : stp P x y ow M ow' M') (hP : ∀ t : Nat × Nat, 400 ≤ t.1 → t.1 < 440 → P t) (h9 : ∀ t : Nat × Nat, t.1 = 9999 → P t) (e : qe 2 11 q q') : FP M' ow' fp q' := fun r hr => rPage_f (H r hr) hs (fun t ht => hP t (by omega) (by omega)) h9 (fun k h1 h2 _ => e k r h1 h2) (obits_e (fun k i h1 h2 => e k i (by omega) (by omega)) r)
theorem sps_f {P : Nat × Nat → Prop} {x y : Nat} {ow ow' : xOw} {M M' : xM} {cs : List Nat} {vs : List SV} (H : sps M ow cs vs) (hs : stp P x y ow M ow' M') (h9 : ∀ t : Nat × Nat, t.1 = 9999 → P t) : sps M' ow' cs vs := ⟨H.1, fun i h1 h2 => isSpot_f (H.2 i h1 h2) hs h9⟩
theorem oCa_f {P : Nat × Nat → Prop} {x y T0 c a cp ak : Nat} {ow ow' : xOw} {M M' : xM} {cs as : List Nat} (H : oCa T0 M ow c a cp ak cs as) (hs : stp P x y ow M ow' M') (hP : ∀ t : Nat × Nat, t.1 = 500 + c → P t) (h8 : ∀ t : Nat × Nat, t.1 = 8 → P t) : oCa T0 M' ow' c a cp ak cs as := by
  obtain ⟨h1, o1, b1, l1, l2⟩ := H
  refine ⟨?_, ?_, ?_, oList_f l1 hs (fun t ht => hP t ht.1) h8, oList_f l2 hs (fun t ht => hP t ht.1) h8⟩
  · rw [(hs.2.2.2 _ b1).2 (hP _ (by rw [o1]))]; exact h1
  · rw [(hs.2.2.2 _ b1).1]; exact o1
  · have := hs.1; omega
theorem cpV_e {q q' : xrho} {c : Nat} {vs : List SV} (H : cpV q c vs) (e : ∀ k i, 55 ≤ k → k ≤ 59 → i < 10000 → q'.1 k (10000 * c + i) = q.1 k (10000 * c + i)) : cpV q' c vs := by
  refine ⟨fun v hv => ?_, H.2⟩
  obtain ⟨h1, h2, h3⟩ := H.1 v hv
  refine ⟨h1, h2, fun k hk => ?_⟩
  have hk2 : k < 10000 := by have := hk.2; omega
  rw [e 55 k (by decide) (by decide) hk2, e 56 k (by decide) (by decide) hk2, e 57 k (by decide) (by decide) hk2, e 58 k (by decide) (by decide) hk2, e 59 k (by decide) (by decide) hk2]
  exact h3 k hk
theorem rCall_f {P : Nat × Nat → Prop} {x y T0 c a n n' : Nat} {ow ow' : xOw} {M M' : xM} {q q' : xrho} {aa aa' : Nat → Nat} (H : rCall T0 M ow c a q aa n) (hs : stp P x y ow M ow' M') (hP : ∀ t : Nat × Nat, t.1 = 500 + c → P t) (h8 : ∀ t : Nat × Nat, t.1 = 8 → P t) (h9 : ∀ t : Nat × Nat, t.1 = 9999 → P t) (e : ∀ k i, 55 ≤ k → k ≤ 59 → i < 10000 → q'.1 k (10000 * c + i) = q.1 k (10000 * c + i)) (e46 : q'.1 46 c = q.1 46 c) (ea : ∀ j, j < nu q 46 c → aa' (60 * c + j) = aa (60 * c + j)) (hn : n ≤ n') : rCall T0 M' ow' c a q' aa' n' := by
  obtain ⟨cp, ak, cs, as, vs, h1, h2, h3, h4, h5, h6⟩ := H
  have e5 : nu q' 46 c = nu q 46 c := by unfold nu; rw [e46]
  exact ⟨cp, ak, cs, as, vs, oCa_f h1 hs hP h8, sps_f h2 hs h9, cpV_e h3 e, by omega, by rw [e5]; exact h5, fun j hj => by rw [h6 j hj, ea j (by omega)]⟩
theorem FC_f {P : Nat × Nat → Prop} {x y T0 n n' : Nat} {ow ow' : xOw} {M M' : xM} {cl : List Nat} {q q' : xrho} {aa : Nat → Nat} (H : FC T0 M ow cl q aa n) (hl : cl.length ≤ 6) (hs : stp P x y ow M ow' M') (hP : ∀ t : Nat × Nat, 500 ≤ t.1 → t.1 < 506 → P t) (h8 : ∀ t : Nat × Nat, t.1 = 8 → P t) (h9 : ∀ t : Nat × Nat, t.1 = 9999 → P t) (e : qe 45 46 q q') (e2 : qe 55 59 q q') (hn : n ≤ n') : FC T0 M' ow' cl q' aa n' := ⟨by rw [qe_nu e (by decide) (by decide)]; exact H.1, fun c hc => rCall_f (H.2 c hc) hs (fun t ht => hP t (by omega) (by omega)) h8 h9 (fun k i h1 h2 _ => e2 k _ h1 h2) (e 46 c (by decide) (by decide)) (fun _ _ => rfl) hn⟩
theorem rAsk_f {P : Nat × Nat → Prop} {x y c j a : Nat} {ow ow' : xOw} {M M' : xM} {q q' : xrho} (H : rAsk M ow c j a q) (hs : stp P x y ow M ow' M') (hP : ∀ t : Nat × Nat, t.1 = 1000 + (60 * c + j) → P t) (e : ∀ k, 47 ≤ k → k ≤ 54 → q'.1 k (60 * c + j) = q.1 k (60 * c + j)) (e2 : ∀ k, 51 ≤ k → k ≤ 53 → q'.2 k (60 * c + j) = q.2 k (60 * c + j)) : rAsk M' ow' c j a q' := by
  obtain ⟨sg, ⟨h1, o1, b1⟩, h2⟩ := H
  unfold rAsk
  rw [e 47 (by decide) (by decide), e 48 (by decide) (by decide), e 49 (by decide) (by decide), e 50 (by decide) (by decide), e 54 (by decide) (by decide), e2 51 (by decide) (by decide), e2 52 (by decide) (by decide), e2 53 (by decide) (by decide)]
  refine ⟨sg, ⟨?_, ?_, ?_⟩, h2⟩
  · rw [(hs.2.2.2 _ b1).2 (hP _ (by rw [o1]))]; exact h1
  · rw [(hs.2.2.2 _ b1).1]; exact o1
  · have := hs.1; omega
theorem FA_f {P : Nat × Nat → Prop} {x y : Nat} {ow ow' : xOw} {M M' : xM} {q q' : xrho} {aa : Nat → Nat} (H : FA M ow q aa) (h45 : nu q 45 0 ≤ 6) (h46 : ∀ c, c < 6 → nu q 46 c ≤ 60) (hs : stp P x y ow M ow' M') (hP : ∀ t : Nat × Nat, 1000 ≤ t.1 → t.1 < 1360 → P t) (e : qe 45 54 q q') (e2 : qeL 51 53 q q') : FA M' ow' q' aa := fun c j hc hj => by
  rw [qe_nu e (by decide) (by decide)] at hc
  rw [qe_nu e (by decide) (by decide)] at hj
  have := h46 c (by omega)
  exact rAsk_f (H c j hc hj) hs (fun t ht => hP t (by omega) (by omega)) (fun k h1 h2 => e k _ (by omega) h2) (fun k h1 h2 => e2 k _ h1 h2)
/-- a letter's values are the same -/
def lsame (q : xrho) (L : xLs) (aa : Nat → Nat) (l : Nat) (q' : xrho) (L' : xLs) (aa' : Nat → Nat) : Prop := (∀ k, 60 ≤ k → k ≤ 75 → k ≠ 74 → q'.1 k l = q.1 k l) ∧ (∀ j, j < 3 → q'.1 74 (3 * l + j) = q.1 74 (3 * l + j) ∧ q'.1 76 (3 * l + j) = q.1 76 (3 * l + j) ∧ q'.2 77 (3 * l + j) = q.2 77 (3 * l + j)) ∧ (∀ c, c < 6 → L'.2.2.2 (6 * l + c) = L.2.2.2 (6 * l + c)) ∧ (q.1 60 l = nI 0 → aa' (60 * nu q 62 l + nu q 66 l) = aa (60 * nu q 62 l + nu q 66 l))
theorem oKept_K {M : xM} {ow : xOw} {g a : Nat} {K K' : Nat → KW} (h : oKept M ow g a K) (e : ∀ c, c < 6 → K' c = K c) : oKept M ow g a K' := oKept_c h e
theorem isPar_K {M : xM} {ow : xOw} {g p : Nat} {lo hi n : Int32} {ps : PW} {K K' : Nat → KW} (h : isPar M ow g p lo hi n ps K) (e : ∀ c, c < 6 → K' c = K c) : isPar M ow g p lo hi n ps K' := by
  rcases h with h | ⟨h1, h2, kk, h3, h4⟩
  · exact Or.inl h
  · exact Or.inr ⟨h1, h2, kk, h3, oKept_K h4 e⟩
theorem parcV_e {q q' : xrho} {l n : Nat} (hn : n ≤ 3) (e : ∀ j, j < 3 → q'.1 74 (3 * l + j) = q.1 74 (3 * l + j) ∧ q'.1 76 (3 * l + j) = q.1 76 (3 * l + j) ∧ q'.2 77 (3 * l + j) = q.2 77 (3 * l + j)) : parcV q' l n = parcV q l n := by
  unfold parcV win
  apply List.map_congr_left
  intro j hj
  have hj := List.mem_range.mp hj
  obtain ⟨e1, e2, e3⟩ := e j (by omega)
  dsimp only
  rw [e1, e2, e3]
theorem parcV_len {q : xrho} {l n : Nat} : (parcV q l n).length = n := by
  unfold parcV win
  rw [List.length_map, List.length_range]
theorem leT_f {P : Nat × Nat → Prop} {x y l : Nat} {ow ow' : xOw} {M M' : xM} {q q' : xrho} {L L' : xLs} {aa aa' : Nat → Nat} {f : Nat → Int32} {v : Int64} {ask told par : Option Nat} (H : leT M ow q L aa l f v ask told par) (hs : stp P x y ow M ow' M') (h9 : ∀ t : Nat × Nat, 9999 ≤ t.1 → P t) (e : lsame q L aa l q' L' aa') : leT M' ow' q' L' aa' l f v ask told par := by
  obtain ⟨e1, e2, e3, e4⟩ := e
  obtain ⟨h1, h2, h3, h4, h5, h6⟩ := H
  have n62 : nu q' 62 l = nu q 62 l := by unfold nu; rw [e1 62 (by decide) (by decide) (by decide)]
  have n66 : nu q' 66 l = nu q 66 l := by unfold nu; rw [e1 66 (by decide) (by decide) (by decide)]
  have n69 : nu q' 69 l = nu q 69 l := by unfold nu; rw [e1 69 (by decide) (by decide) (by decide)]
  unfold leT
  have e77 := (e2 0 (by decide)).2.2
  rw [Nat.add_zero] at e77
  rw [n62, n66, n69, e77, e1 60 (by decide) (by decide) (by decide), e1 61 (by decide) (by decide) (by decide), e1 62 (by decide) (by decide) (by decide), e1 63 (by decide) (by decide) (by decide), e1 64 (by decide) (by decide) (by decide), e1 65 (by decide) (by decide) (by decide), e1 66 (by decide) (by decide) (by decide), e1 67 (by decide) (by decide) (by decide), e1 68 (by decide) (by decide) (by decide), e1 69 (by decide) (by decide) (by decide), e1 70 (by decide) (by decide) (by decide), e1 71 (by decide) (by decide) (by decide), e1 72 (by decide) (by decide) (by decide), e1 73 (by decide) (by decide) (by decide), e1 75 (by decide) (by decide) (by decide)]
  refine ⟨h1, h2, h3, fun h0 => by rw [e4 h0]; exact h4 h0, fun h0 => ?_, ?_⟩
  · rcases h5 h0 with h | ⟨h, s, g1, g2⟩
    · exact Or.inl h
    · exact Or.inr ⟨h, s, g1, isSpot_f g2 hs (fun t ht => h9 t (by omega))⟩
  · rcases h6 with h | ⟨p, g1, g2⟩
    · exact Or.inl h
    · have hl := (isPar_c g2).2.2.2.1
      rw [parcV_len] at hl
      refine Or.inr ⟨p, g1, ?_⟩
      rw [parcV_e hl e2]
      exact isPar_K (isPar_f g2 hs (fun t ht => h9 t (by omega))) e3
theorem rLet_f {P : Nat × Nat → Prop} {x y l a : Nat} {ow ow' : xOw} {M M' : xM} {q q' : xrho} {L L' : xLs} {aa aa' : Nat → Nat} {par : Option Nat} (H : rLet M ow l a q L aa par) (hs : stp P x y ow M ow' M') (hP : ∀ t : Nat × Nat, t.1 = 2000 + l → P t) (h9 : ∀ t : Nat × Nat, 9999 ≤ t.1 → P t) (e : lsame q L aa l q' L' aa') : rLet M' ow' l a q' L' aa' par := by
  obtain ⟨f, v, ask, told, ⟨h1, o1, b1⟩, h2⟩ := H
  refine ⟨f, v, ask, told, ⟨?_, ?_, ?_⟩, leT_f h2 hs h9 e⟩
  · rw [(hs.2.2.2 _ b1).2 (hP _ (by rw [o1]))]; exact h1
  · rw [(hs.2.2.2 _ b1).1]; exact o1
  · have := hs.1; omega
theorem FL_f {P : Nat × Nat → Prop} {x y : Nat} {ow ow' : xOw} {M M' : xM} {ll : List Nat} {q q' : xrho} {L L' : xLs} {aa aa' : Nat → Nat} {pk : Nat → Option Nat} (H : FL M ow ll q L aa pk) (hl : ll.length ≤ 1200) (hs : stp P x y ow M ow' M') (hP : ∀ t : Nat × Nat, 2000 ≤ t.1 → t.1 < 3200 → P t) (h9 : ∀ t : Nat × Nat, 9999 ≤ t.1 → P t) (e82 : q'.1 82 0 = q.1 82 0) (e : ∀ l, l < ll.length → lsame q L aa l q' L' aa') : FL M' ow' ll q' L' aa' pk := ⟨by unfold nu; rw [e82]; exact H.1, fun l hl2 => rLet_f (H.2 l hl2) hs (fun t ht => hP t (by omega) (by omega)) h9 (e l hl2)⟩
theorem ls_of {q q' : xrho} {L L' : xLs} {aa : Nat → Nat} {l : Nat} (e1 : qe 60 76 q q') (e2 : qeL 77 77 q q') (e3 : ∀ c, c < 6 → L'.2.2.2 (6 * l + c) = L.2.2.2 (6 * l + c)) : lsame q L aa l q' L' aa := ⟨fun k h1 h2 _ => e1 k l h1 (by omega), fun j _ => ⟨e1 74 _ (by decide) (by decide), e1 76 _ (by decide) (by decide), e2 77 _ (Nat.le_refl _) (Nat.le_refl _)⟩, e3, fun _ => rfl⟩
theorem FD_f {ll dl : List Nat} {q q' : xrho} (H : FD ll dl q) (e1 : qe 83 88 q q') (e2 : ∀ k l, 61 ≤ k → k ≤ 66 → k ≠ 65 → l < ll.length → q'.1 k l = q.1 k l) : FD ll dl q' := by
  refine ⟨by rw [qe_nu e1 (by decide) (by decide)]; exact H.1, fun i hi => ?_⟩
  obtain ⟨l, hl, h0, h1, h2, h3, h4, h5⟩ := H.2 i hi
  refine ⟨l, hl, h0, ?_, ?_, ?_, ?_, ?_⟩
  · rw [e1 83 _ (by decide) (by decide), e2 62 l (by decide) (by decide) (by decide) hl]; exact h1
  · rw [e1 84 _ (by decide) (by decide), e2 66 l (by decide) (by decide) (by decide) hl]; exact h2
  · rw [e1 85 _ (by decide) (by decide), e2 61 l (by decide) (by decide) (by decide) hl]; exact h3
  · rw [e1 86 _ (by decide) (by decide), e2 63 l (by decide) (by decide) (by decide) hl]; exact h4
  · rw [e1 87 _ (by decide) (by decide), e2 64 l (by decide) (by decide) (by decide) hl]; exact h5
