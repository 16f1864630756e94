/-! PART -/
theorem st_05 {q : xrho} {p : Nat} (h : isN q 15 p 5) : q.1 15 p = 0 ∨ q.1 15 p = nI 1 ∨ q.1 15 p = nI 2 ∨ q.1 15 p = nI 3 ∨ q.1 15 p = nI 4 ∨ q.1 15 p = nI 5 := by
  obtain ⟨h1, h2⟩ := h
  rw [h1]
  rcases (show nu q 15 p = 0 ∨ nu q 15 p = 1 ∨ nu q 15 p = 2 ∨ nu q 15 p = 3 ∨ nu q 15 p = 4 ∨ nu q 15 p = 5 by omega) with e | e | e | e | e | e <;> rw [e]
  · exact Or.inl rfl
  · exact Or.inr (Or.inl rfl)
  · exact Or.inr (Or.inr (Or.inl rfl))
  · exact Or.inr (Or.inr (Or.inr (Or.inl rfl)))
  · exact Or.inr (Or.inr (Or.inr (Or.inr (Or.inl rfl))))
  · exact Or.inr (Or.inr (Or.inr (Or.inr (Or.inr rfl))))
theorem clrK_at (K : Nat → KW) (p : Nat) {c : Nat} (hc : c < 6) : clrK K p (6 * p + c) = [] := by
  unfold clrK
  rw [if_pos (by omega)]
theorem clrK_ne (K : Nat → KW) (p : Nat) {p' c : Nat} (hp : p' ≠ p) (hc : c < 6) : clrK K p (6 * p' + c) = K (6 * p' + c) := by
  unfold clrK
  rw [if_neg (by omega)]
theorem cpZ_ne (K : Nat → KW) (p : Nat) (G : Nat → KW) {p' c : Nat} (hp : p' ≠ p) (hc : c < 6) : cpZ K p G 6 (6 * p' + c) = K (6 * p' + c) := by
  unfold cpZ
  rw [if_neg (by omega)]
theorem gpaq_v (q : xrho) (l p : Nat) : ((gpaq q l p).1 15 p = nI 4 ∧ (gpaq q l p).1 18 p = q.1 64 l ∧ (gpaq q l p).1 16 p = q.1 70 l ∧ (gpaq q l p).1 17 p = q.1 71 l) ∧ (gpaq q l p).1 22 p = q.1 67 l ∧ (gpaq q l p).1 23 p = nI 0 ∧ (gpaq q l p).1 30 p = q.1 64 l ∧ (gpaq q l p).1 31 p = q.1 67 l := by
  unfold gpaq
  simp (decide := true) only [rup_r, and_true, and_false, false_and, true_and, reduceIte, and_self]
theorem gpaq_o (q : xrho) (l p : Nat) {k i : Nat} (h : ¬ (15 ≤ k ∧ k ≤ 31) ∨ i ≠ p) : (gpaq q l p).1 k i = q.1 k i := by
  unfold gpaq
  rw [rup_r, if_neg (by omega), rup_r, if_neg (by omega), rup_r, if_neg (by omega), rup_r, if_neg (by omega), rup_r, if_neg (by omega), rup_r, if_neg (by omega), rup_r, if_neg (by omega), rup_r, if_neg (by omega)]
theorem gpaq_29 (q : xrho) (l p i : Nat) : (gpaq q l p).1 29 i = q.1 29 i := by
  unfold gpaq
  rw [rup_ne _ _ _ _ (by decide), rup_ne _ _ _ _ (by decide), rup_ne _ _ _ _ (by decide), rup_ne _ _ _ _ (by decide), rup_ne _ _ _ _ (by decide), rup_ne _ _ _ _ (by decide), rup_ne _ _ _ _ (by decide), rup_ne _ _ _ _ (by decide)]
/-- taking a parcel keeps what posting needs -/
theorem gOK_tk {q z : xrho} {p : Nat} (G : gOK q) (e : ∀ k i, ¬ (15 ≤ k ∧ k ≤ 31) ∨ i ≠ p → z.1 k i = q.1 k i) (e29 : ∀ i, z.1 29 i = q.1 29 i) (h : z.1 15 p ≠ nI 2 ∧ z.1 15 p ≠ nI 3) : gOK z := by
  refine ⟨bds_e G.1 (fun k i hk => e k i (Or.inl (by omega))), fun s hs a b => ?_, fun l a b => ?_⟩
  · rw [nu_e (e29 s), nu_e (e 82 0 (Or.inl (by decide)))]
    rw [e 32 s (Or.inl (by decide))] at b
    by_cases ep : s = p
    · rw [ep] at a
      exact absurd a (fun a => a.elim h.1 h.2)
    · rw [e 15 s (Or.inr ep)] at a
      exact G.2.1 s hs a b
  · rw [nu_e (e 82 0 (Or.inl (by decide)))] at a
    rw [e 65 l (Or.inl (by decide)), e 75 l (Or.inl (by decide))]
    exact G.2.2 l a b
theorem R_recv {T0 MI X n l h r a b pc : Nat} {ad : Nat → Nat} {fh fp : Nat → Option Nat} {cl ll dl : List Nat} {aa : Nat → Nat} {pk : Nat → Option Nat} {q : xrho} {L : xLs} {M : xM} {ow : xOw} {f : Nat → Option Nat} (H : Rep T0 X n ad fh fp cl ll dl aa pk q L M ow) (G : gOK q) (hl : l < ll.length) (hh6 : h < 6) (hr40 : r < 40) (s05 : isN q 15 (40 * h + r) 5) (h69 : q.1 69 l = Int32.ofInt (-1) ∨ isN q 69 l 3) (h68 : ¬ q.1 68 l < 0) (ha : fh h = some a) (f2 : rHost T0 M ow h a f q) (f3 : ∀ r', r' < 40 → rHold M ow (f r') (40 * h + r') q L pk) (hfr : f r = some b) (hpc : pk l = some pc) : ∃ M' x z, xZ T0 MI 22 0 [some (vr (some b)), some (vr (some ll[l])), some (vr (some pc))] [] M = some (some (vi x), M') ∧ Rep T0 X n ad fh fp cl ll dl aa pk z.1 z.2 M' ow ∧ aparted q L l h r = (if x = Int32.ofInt (-2) then z else withT z (nu q 82 0) l h r x) ∧ gOK z.1 ∧ (∀ k i, 60 ≤ k → z.1.1 k i = q.1 k i) ∧ stp (off (100 + (40 * h + r))) 0 0 ow M ow M' := by
  have B := G.1
  have n2 : ¬ q.1 68 l = Int32.ofInt (-2) := fun e => h68 (by rw [e]; decide)
  obtain ⟨⟨g0, g1, g2, g3, g4⟩, ⟨-, g6, g7, -, -⟩, ⟨lo, lb⟩, -⟩ := lt_g H hl
  have hN := f3 r hr40
  have hN0 := hN
  rw [hfr] at hN
  obtain ⟨ra, ka, sa, hv, sn, R, K, S, hA, ti⟩ := hN
  obtain ⟨lf, lv, lask, ltold, -, lt⟩ := H.2.2.2.2.2.2.1.2 l hl
  have hpar : isPar M ow (10000 + pc) pc (q.1 70 l) (q.1 71 l) (q.1 69 l) (parcV q l (nu q 69 l)) (fun c => L.2.2.2 (6 * l + c)) := by
    rcases lt.2.2.2.2.2 with ⟨p1, -⟩ | ⟨pc', p1, p2⟩
    · rw [hpc] at p1
      cases p1
    · rw [hpc] at p1
      cases p1
      exact p2
  obtain ⟨M', x, e1, rs, s1⟩ := c_receive (T0 := T0) (MI := MI) (show 100 + (40 * h + r) ≠ 10000 + pc by omega) hA hpar ⟨g4, g6, g7⟩ lb (by rw [lo]; show 2000 + l ≠ _; omega)
  obtain ⟨t0, t6, t7⟩ := ti.1
  unfold rcvS at rs
  have hanew : anewC hv (q.1 64 l) (q.1 67 l) (q.1 68 l) ↔ ganew q l (40 * h + r) := by
    unfold ganew
    show ¬ (hv 0 = nI 1 ∨ hv 0 = nI 2 ∨ hv 0 = nI 3) ∧ _ ∧ (hv 6 < _ ∨ _ = hv 6 ∧ hv 7 < _) ↔ _
    rw [t0, t6, t7]
    constructor
    · rintro ⟨x1, x2, x3⟩
      refine ⟨?_, x2, x3⟩
      rcases st_05 s05 with e | e | e | e | e | e
      · exact Or.inl e
      · exact absurd (Or.inl e) x1
      · exact absurd (Or.inr (Or.inl e)) x1
      · exact absurd (Or.inr (Or.inr e)) x1
      · exact Or.inr (Or.inl e)
      · exact Or.inr (Or.inr e)
    · rintro ⟨x1, x2, x3⟩
      refine ⟨?_, x2, x3⟩
      rcases x1 with e | e | e <;> (rw [e]; decide)
  have same : M' = M → Rep T0 X n ad fh fp cl ll dl aa pk q L M' ow := fun e => by rw [e]; exact H
  by_cases ca : ganew q l (40 * h + r)
  · rw [if_pos (tI_t (hanew.mpr ca))] at rs
    obtain ⟨hx, tk⟩ := rs
    have e68 : q.1 68 l = 0 := ca.2.1
    subst hx
    have eap : aparted q L l h r = withT (atkp (gpaq q l (40 * h + r)) (va_up L.1 (40 * h + r) [], L.2.1, clrK L.2.2.1 (40 * h + r), L.2.2.2) l (40 * h + r)) (nu q 82 0) l h r (q.1 68 l) := by
      unfold aparted
      dsimp only
      rw [if_pos (tI_t ca)]
    obtain ⟨⟨w15, w18, w16, w17⟩, w22, w23, w30, w31⟩ := gpaq_v q l (40 * h + r)
    have w69 : (gpaq q l (40 * h + r)).1 69 l = q.1 69 l := gpaq_o _ _ _ (Or.inl (by decide))
    have eP : parcV (gpaq q l (40 * h + r)) l (nu (gpaq q l (40 * h + r)) 69 l) = parcV q l (nu q 69 l) := by
      rw [nu_e w69]
      rfl
    unfold tkR at tk
    by_cases cn : q.1 69 l = Int32.ofInt (-1)
    · rw [if_pos cn] at tk
      have ez : atkp (gpaq q l (40 * h + r)) (va_up L.1 (40 * h + r) [], L.2.1, clrK L.2.2.1 (40 * h + r), L.2.2.2) l (40 * h + r) = (rup (rup (gpaq q l (40 * h + r)) 23 (40 * h + r) (nI 0 + nI 1)) 15 (40 * h + r) (nI 5), va_up L.1 (40 * h + r) [], L.2.1, cpZ (clrK L.2.2.1 (40 * h + r)) (40 * h + r) (fun c => L.2.2.2 (6 * l + c)) 6, L.2.2.2) := by
        unfold atkp
        rw [w69, if_pos (by rw [cn]; decide), w23]
      have zo : ∀ k i, ¬ (15 ≤ k ∧ k ≤ 31) ∨ i ≠ 40 * h + r → (rup (rup (gpaq q l (40 * h + r)) 23 (40 * h + r) (nI 0 + nI 1)) 15 (40 * h + r) (nI 5)).1 k i = q.1 k i := fun k i hk => by
        rw [rup_r, if_neg (by omega), rup_r, if_neg (by omega), gpaq_o _ _ _ hk]
      refine ⟨M', _, (rup (rup (gpaq q l (40 * h + r)) 23 (40 * h + r) (nI 0 + nI 1)) 15 (40 * h + r) (nI 5), va_up L.1 (40 * h + r) [], L.2.1, cpZ (clrK L.2.2.1 (40 * h + r)) (40 * h + r) (fun c => L.2.2.2 (6 * l + c)) 6, L.2.2.2), e1, ?_, ?_, gOK_tk G zo (fun i => by rw [rup_ne _ _ _ _ (by decide), rup_ne _ _ _ _ (by decide), gpaq_29]) (by rw [rup_at]; decide), fun k i hk => zo k i (Or.inl (by omega)), s1⟩
      · refine (Rep_hd (q' := rup (rup (gpaq q l (40 * h + r)) 23 (40 * h + r) (nI 0 + nI 1)) 15 (40 * h + r) (nI 5)) (L' := (va_up L.1 (40 * h + r) [], L.2.1, cpZ (clrK L.2.2.1 (40 * h + r)) (40 * h + r) (fun c => L.2.2.2 (6 * l + c)) 6, L.2.2.2)) H B hh6 hr40 ha f2 f3 s1 ?_ (fun k i hk => zo k i (Or.inl (by omega))) (fun k p hp _ => zo k p (Or.inr hp)) (fun _ _ _ _ => rfl) (fun p hp => va_up_ne _ _ hp) (fun _ _ => rfl) (fun p c hp hc => ?_) rfl).1
        · rw [hfr]
          refine ⟨ra, ka, sa, _, none, _, _, _, tk, ?_⟩
          unfold tie
          rw [rup_at, rup_ne _ _ _ _ (k' := 16) (by decide), rup_ne _ _ _ _ (k' := 17) (by decide), rup_ne _ _ _ _ (k' := 18) (by decide), rup_ne _ _ _ _ (k' := 30) (by decide), rup_ne _ _ _ _ (k' := 31) (by decide), rup_ne _ _ _ _ (k' := 16) (by decide), rup_ne _ _ _ _ (k' := 17) (by decide), rup_ne _ _ _ _ (k' := 18) (by decide), rup_ne _ _ _ _ (k' := 30) (by decide), rup_ne _ _ _ _ (k' := 31) (by decide), w16, w17, w18, w30, w31]
          refine ⟨⟨rfl, rfl, rfl⟩, fun e => absurd e (by decide), fun _ => ⟨⟨rfl, rfl, rfl⟩, (va_up_self _ _ _).symm, fun c hc => ?_⟩, fun e => ?_, fun e => ?_, fun e => absurd e (by decide)⟩
          · exact (cpZ_at (clrK L.2.2.1 (40 * h + r)) (40 * h + r) (fun c => L.2.2.2 (6 * l + c)) hc).symm
          · rcases e with e | e | e <;> exact absurd e (by decide)
          · rcases e with e | e <;> exact absurd e (by decide)
        · show cpZ (clrK L.2.2.1 (40 * h + r)) (40 * h + r) (fun c => L.2.2.2 (6 * l + c)) 6 (6 * p + c) = _
          rw [cpZ_ne _ _ _ hp hc, clrK_ne _ _ hp hc]
      · rw [eap, ez, if_neg n2]
    · rw [if_neg cn] at tk
      have hn := h69.resolve_left cn
      have ez : atkp (gpaq q l (40 * h + r)) (va_up L.1 (40 * h + r) [], L.2.1, clrK L.2.2.1 (40 * h + r), L.2.2.2) l (40 * h + r) = (rup (gpaq q l (40 * h + r)) 23 (40 * h + r) (nI 0 + nI 1), va_up (va_up L.1 (40 * h + r) []) (40 * h + r) ((parcV q l (nu q 69 l)).foldl tkP []), L.2.1, clrK L.2.2.1 (40 * h + r), L.2.2.2) := by
        unfold atkp
        rw [w69, if_neg (by rw [hn.1]; exact nlt0 (by have := hn.2; omega)), w23, eP]
        dsimp only
        rw [va_up_self]
      have zo : ∀ k i, ¬ (15 ≤ k ∧ k ≤ 31) ∨ i ≠ 40 * h + r → (rup (gpaq q l (40 * h + r)) 23 (40 * h + r) (nI 0 + nI 1)).1 k i = q.1 k i := fun k i hk => by
        rw [rup_r, if_neg (by omega), gpaq_o _ _ _ hk]
      refine ⟨M', _, (rup (gpaq q l (40 * h + r)) 23 (40 * h + r) (nI 0 + nI 1), va_up (va_up L.1 (40 * h + r) []) (40 * h + r) ((parcV q l (nu q 69 l)).foldl tkP []), L.2.1, clrK L.2.2.1 (40 * h + r), L.2.2.2), e1, ?_, ?_, gOK_tk G zo (fun i => by rw [rup_ne _ _ _ _ (by decide), gpaq_29]) (by rw [rup_ne _ _ _ _ (by decide), w15]; decide), fun k i hk => zo k i (Or.inl (by omega)), s1⟩
      · refine (Rep_hd (q' := rup (gpaq q l (40 * h + r)) 23 (40 * h + r) (nI 0 + nI 1)) (L' := (va_up (va_up L.1 (40 * h + r) []) (40 * h + r) ((parcV q l (nu q 69 l)).foldl tkP []), L.2.1, clrK L.2.2.1 (40 * h + r), L.2.2.2)) H B hh6 hr40 ha f2 f3 s1 ?_ (fun k i hk => zo k i (Or.inl (by omega))) (fun k p hp _ => zo k p (Or.inr hp)) (fun _ _ _ _ => rfl) (fun p hp => (va_up_ne _ _ hp).trans (va_up_ne _ _ hp)) (fun _ _ => rfl) (fun p c hp hc => clrK_ne _ _ hp hc) rfl).1
        rw [hfr]
        refine ⟨ra, ka, sa, _, none, _, _, _, tk, ?_⟩
        unfold tie
        rw [rup_at, rup_ne _ _ _ _ (k' := 15) (by decide), rup_ne _ _ _ _ (k' := 16) (by decide), rup_ne _ _ _ _ (k' := 17) (by decide), rup_ne _ _ _ _ (k' := 18) (by decide), rup_ne _ _ _ _ (k' := 22) (by decide), rup_ne _ _ _ _ (k' := 30) (by decide), rup_ne _ _ _ _ (k' := 31) (by decide), w15, w16, w17, w18, w22, w30, w31]
        refine ⟨⟨rfl, rfl, rfl⟩, fun e => absurd e (by decide), fun _ => ⟨⟨rfl, rfl, rfl⟩, (va_up_self _ _ _).symm, fun c hc => (clrK_at L.2.2.1 (40 * h + r) hc).symm⟩, fun _ => ⟨rfl, rfl⟩, fun e => ?_, fun e => absurd e (by decide)⟩
        rcases e with e | e <;> exact absurd e (by decide)
      · rw [eap, ez, if_neg n2]
  · rw [if_neg (by rw [tI_f (fun e => ca (hanew.mp e))]; decide)] at rs
    by_cases c4 : q.1 15 (40 * h + r) = nI 4
    · obtain ⟨⟨v1, v2, v3⟩, vR, vK⟩ := ti.2.2.1 (by rw [c4]; decide)
      obtain ⟨v9, v10⟩ := ti.2.2.2.1 (Or.inr (Or.inr c4))
      by_cases cs : q.1 18 (40 * h + r) = q.1 64 l ∧ q.1 22 (40 * h + r) = q.1 67 l
      · rw [if_pos ⟨t0.trans c4, v3.trans cs.1, v9.trans cs.2⟩] at rs
        by_cases cp : q.1 68 l = q.1 23 (40 * h + r)
        · rw [if_pos (cp.trans v10.symm)] at rs
          obtain ⟨hx, tk⟩ := rs
          subst hx
          have gs : gsame q l (40 * h + r) := ⟨c4, cs.1, cs.2, by rw [cp]; exact fun e => i_irr e⟩
          have eap : aparted q L l h r = withT (atkp q L l (40 * h + r)) (nu q 82 0) l h r (q.1 68 l) := by
            unfold aparted
            dsimp only
            rw [if_neg (by rw [tI_f ca]; decide), if_pos gs, if_pos cp]
          unfold tkR at tk
          by_cases cn : q.1 69 l = Int32.ofInt (-1)
          · rw [if_pos cn] at tk
            have ez : atkp q L l (40 * h + r) = (rup (rup q 23 (40 * h + r) (q.1 23 (40 * h + r) + nI 1)) 15 (40 * h + r) (nI 5), L.1, L.2.1, cpZ L.2.2.1 (40 * h + r) (fun c => L.2.2.2 (6 * l + c)) 6, L.2.2.2) := by
              unfold atkp
              rw [if_pos (by rw [cn]; decide)]
            have zo : ∀ k i, ¬ (15 ≤ k ∧ k ≤ 31) ∨ i ≠ 40 * h + r → (rup (rup q 23 (40 * h + r) (q.1 23 (40 * h + r) + nI 1)) 15 (40 * h + r) (nI 5)).1 k i = q.1 k i := fun k i hk => by
              rw [rup_r, if_neg (by omega), rup_r, if_neg (by omega)]
            refine ⟨M', _, (rup (rup q 23 (40 * h + r) (q.1 23 (40 * h + r) + nI 1)) 15 (40 * h + r) (nI 5), L.1, L.2.1, cpZ L.2.2.1 (40 * h + r) (fun c => L.2.2.2 (6 * l + c)) 6, L.2.2.2), e1, ?_, ?_, gOK_tk G zo (fun i => by rw [rup_ne _ _ _ _ (by decide), rup_ne _ _ _ _ (by decide)]) (by rw [rup_at]; decide), fun k i hk => zo k i (Or.inl (by omega)), s1⟩
            · refine (Rep_hd (q' := rup (rup q 23 (40 * h + r) (q.1 23 (40 * h + r) + nI 1)) 15 (40 * h + r) (nI 5)) (L' := (L.1, L.2.1, cpZ L.2.2.1 (40 * h + r) (fun c => L.2.2.2 (6 * l + c)) 6, L.2.2.2)) H B hh6 hr40 ha f2 f3 s1 ?_ (fun k i hk => zo k i (Or.inl (by omega))) (fun k p hp _ => zo k p (Or.inr hp)) (fun _ _ _ _ => rfl) (fun p hp => rfl) (fun _ _ => rfl) (fun p c hp hc => cpZ_ne L.2.2.1 (40 * h + r) (fun c => L.2.2.2 (6 * l + c)) hp hc) rfl).1
              rw [hfr]
              refine ⟨ra, ka, sa, _, sn, _, _, _, tk, ?_⟩
              unfold tie
              rw [rup_at, rup_ne _ _ _ _ (k' := 16) (by decide), rup_ne _ _ _ _ (k' := 17) (by decide), rup_ne _ _ _ _ (k' := 18) (by decide), rup_ne _ _ _ _ (k' := 30) (by decide), rup_ne _ _ _ _ (k' := 31) (by decide), rup_ne _ _ _ _ (k' := 16) (by decide), rup_ne _ _ _ _ (k' := 17) (by decide), rup_ne _ _ _ _ (k' := 18) (by decide), rup_ne _ _ _ _ (k' := 30) (by decide), rup_ne _ _ _ _ (k' := 31) (by decide)]
              refine ⟨⟨rfl, t6, t7⟩, fun e => absurd e (by decide), fun _ => ⟨⟨v1, v2, v3⟩, vR, fun c hc => ?_⟩, fun e => ?_, fun e => ?_, fun e => absurd e (by decide)⟩
              · exact (cpZ_at L.2.2.1 (40 * h + r) (fun c => L.2.2.2 (6 * l + c)) hc).symm
              · rcases e with e | e | e <;> exact absurd e (by decide)
              · rcases e with e | e <;> exact absurd e (by decide)
            · rw [eap, ez, if_neg n2]
          · rw [if_neg cn] at tk
            have hn := h69.resolve_left cn
            have ez : atkp q L l (40 * h + r) = (rup q 23 (40 * h + r) (q.1 23 (40 * h + r) + nI 1), va_up L.1 (40 * h + r) ((parcV q l (nu q 69 l)).foldl tkP (L.1 (40 * h + r))), L.2.1, L.2.2.1, L.2.2.2) := by
              unfold atkp
              rw [if_neg (by rw [hn.1]; exact nlt0 (by have := hn.2; omega))]
            have zo : ∀ k i, ¬ (15 ≤ k ∧ k ≤ 31) ∨ i ≠ 40 * h + r → (rup q 23 (40 * h + r) (q.1 23 (40 * h + r) + nI 1)).1 k i = q.1 k i := fun k i hk => by
              rw [rup_r, if_neg (by omega)]
            refine ⟨M', _, (rup q 23 (40 * h + r) (q.1 23 (40 * h + r) + nI 1), va_up L.1 (40 * h + r) ((parcV q l (nu q 69 l)).foldl tkP (L.1 (40 * h + r))), L.2.1, L.2.2.1, L.2.2.2), e1, ?_, ?_, gOK_tk G zo (fun i => by rw [rup_ne _ _ _ _ (by decide)]) (by rw [rup_ne _ _ _ _ (by decide), c4]; decide), fun k i hk => zo k i (Or.inl (by omega)), s1⟩
            · refine (Rep_hd (q' := rup q 23 (40 * h + r) (q.1 23 (40 * h + r) + nI 1)) (L' := (va_up L.1 (40 * h + r) ((parcV q l (nu q 69 l)).foldl tkP (L.1 (40 * h + r))), L.2.1, L.2.2.1, L.2.2.2)) H B hh6 hr40 ha f2 f3 s1 ?_ (fun k i hk => zo k i (Or.inl (by omega))) (fun k p hp _ => zo k p (Or.inr hp)) (fun _ _ _ _ => rfl) (fun p hp => va_up_ne _ _ hp) (fun _ _ => rfl) (fun p c hp hc => rfl) rfl).1
              rw [hfr]
              refine ⟨ra, ka, sa, _, sn, _, _, _, tk, ?_⟩
              unfold tie
              rw [rup_at, rup_ne _ _ _ _ (k' := 15) (by decide), rup_ne _ _ _ _ (k' := 16) (by decide), rup_ne _ _ _ _ (k' := 17) (by decide), rup_ne _ _ _ _ (k' := 18) (by decide), rup_ne _ _ _ _ (k' := 22) (by decide), rup_ne _ _ _ _ (k' := 30) (by decide), rup_ne _ _ _ _ (k' := 31) (by decide), c4]
              refine ⟨⟨t0.trans c4, t6, t7⟩, fun e => absurd e (by decide), fun _ => ⟨⟨v1, v2, v3⟩, by rw [vR]; exact (va_up_self _ _ _).symm, vK⟩, fun _ => ⟨v9, by rw [← v10]; rfl⟩, fun e => ?_, fun e => absurd e (by decide)⟩
              rcases e with e | e <;> exact absurd e (by decide)
            · rw [eap, ez, if_neg n2]
        · rw [if_neg (fun e => cp (e.trans v10))] at rs
          obtain ⟨hM, hx⟩ := rs
          refine ⟨M', x, (q, L), e1, same hM, ?_, G, fun _ _ _ => rfl, s1⟩
          rw [v10] at hx
          by_cases cl2 : q.1 23 (40 * h + r) ≤ q.1 68 l
          · rw [if_pos cl2] at hx
            have ng : ¬ gsame q l (40 * h + r) := fun e => e.2.2.2 (by
              rw [Int32.lt_iff_toInt_lt]
              rw [Int32.le_iff_toInt_le] at cl2
              have : (q.1 23 (40 * h + r)).toInt ≠ (q.1 68 l).toInt := fun e => cp (Int32.toInt_inj.mp e).symm
              omega)
            rw [hx, if_pos rfl]
            unfold aparted
            dsimp only
            rw [if_neg (by rw [tI_f ca]; decide), if_neg ng, if_neg (fun e => absurd (e.1.symm.trans c4) (by decide)), if_neg (by rw [c4]; decide)]
          · rw [if_neg cl2] at hx
            have gs : gsame q l (40 * h + r) := ⟨c4, cs.1, cs.2, fun e => cl2 (Int32.le_of_lt e)⟩
            rw [hx, if_neg n2]
            unfold aparted
            dsimp only
            rw [if_neg (by rw [tI_f ca]; decide), if_pos gs, if_neg cp]
      · rw [if_neg (fun e => cs ⟨v3.symm.trans e.2.1, v9.symm.trans e.2.2⟩), if_neg (fun e => absurd ((t0.trans c4).symm.trans e.1) (by decide)), if_neg (by rw [t0, c4]; decide)] at rs
        obtain ⟨hM, hx⟩ := rs
        refine ⟨M', x, (q, L), e1, same hM, ?_, G, fun _ _ _ => rfl, s1⟩
        rw [hx, if_pos rfl]
        unfold aparted
        dsimp only
        rw [if_neg (by rw [tI_f ca]; decide), if_neg (fun e => cs ⟨e.2.1, e.2.2.1⟩), if_neg (fun e => absurd (e.1.symm.trans c4) (by decide)), if_neg (by rw [c4]; decide)]
    · rw [if_neg (fun e => c4 (t0.symm.trans e.1))] at rs
      have ng : ¬ gsame q l (40 * h + r) := fun e => c4 e.1
      by_cases c5 : q.1 15 (40 * h + r) = nI 5 ∧ q.1 18 (40 * h + r) = q.1 64 l
      · have v3 := (ti.2.2.1 (by rw [c5.1]; decide)).1.2.2
        rw [if_pos ⟨t0.trans c5.1, v3.trans c5.2⟩] at rs
        obtain ⟨hM, hx⟩ := rs
        refine ⟨M', x, (q, L), e1, same hM, ?_, G, fun _ _ _ => rfl, s1⟩
        rw [hx, if_neg n2]
        unfold aparted
        dsimp only
        rw [if_neg (by rw [tI_f ca]; decide), if_neg ng, if_pos c5]
      · have n5 : ¬ (hv 0 = nI 5 ∧ hv 3 = q.1 64 l) := fun e => by
          have e15 : q.1 15 (40 * h + r) = nI 5 := t0.symm.trans e.1
          have v3 := (ti.2.2.1 (by rw [e15]; decide)).1.2.2
          exact c5 ⟨e15, v3.symm.trans e.2⟩
        rw [if_neg n5] at rs
        obtain ⟨hM, hx⟩ := rs
        refine ⟨M', x, (q, L), e1, same hM, ?_, G, fun _ _ _ => rfl, s1⟩
        rw [t0] at hx
        unfold aparted
        dsimp only
        rw [if_neg (by rw [tI_f ca]; decide), if_neg ng, if_neg c5]
        by_cases c0 : q.1 15 (40 * h + r) = 0
        · rw [if_pos c0] at hx
          rw [if_pos c0, hx, if_neg (by decide)]
        · rw [if_neg c0] at hx
          rw [if_neg c0, hx, if_pos rfl]
theorem R_part {T0 MI X n l h r a : Nat} {ad : Nat → Nat} {fh fp : Nat → Option Nat} {cl ll dl : List Nat} {aa : Nat → Nat} {pk : Nat → Option Nat} {q : xrho} {L : xLs} {M : xM} {ow : xOw} {o3 o4 o5 : Option xV} (H : Rep T0 X n ad fh fp cl ll dl aa pk q L M ow) (G : gOK q) (hl : l < ll.length) (hh : lh q l h r) (s05 : isN q 15 (40 * h + r) 5) (h69 : q.1 69 l = Int32.ofInt (-1) ∨ isN q 69 l 3) (h68 : ¬ q.1 68 l < 0) (ha : fh h = some a) (hroom : ll.length < 1200) : ∃ M' ow' ll' pk', xZ T0 MI 114 0 [some (vr (some X)), some (vr (some a)), some (vr (some ll[l])), o3, o4, o5] [] M = some (none, M') ∧ Rep T0 X n ad fh fp cl ll' dl aa pk' (aparted q L l h r).1 (aparted q L l h r).2 M' ow' ∧ stp ext 13 (2 * ll.length + 255) ow M ow' M' := by
  have n82 : ll.length = nu q 82 0 := H.2.2.2.2.2.2.1.1
  obtain ⟨e61, hh6, e63, hr40⟩ := hh
  obtain ⟨⟨g0, g1, g2, g3, g4⟩, ⟨-, g6, g7, -, -⟩, ⟨lo, lb⟩, g13⟩ := lt_g H hl
  rw [e63] at g3
  obtain ⟨f, f2, f3, hac, -, -⟩ := hs_acc (T0 := T0) (MI := MI) (r := r) H hh6 hr40 ha
  obtain ⟨M1, ow1, b, f', ch, H1, F2, F3, fb, -, t1⟩ := R_hold (T0 := T0) (MI := MI) (r := r) H G.1 hh6 hr40 ha f2 f3
  obtain ⟨lf, lv, lask, ltold, -, lt⟩ := H.2.2.2.2.2.2.1.2 l hl
  rcases lt.2.2.2.2.2 with ⟨-, p2⟩ | ⟨pc, p1, -⟩
  · exact absurd p2 (by
      rcases h69 with e | e
      · rw [e]; decide
      · intro e2
        rw [e.1] at e2
        exact nlt0 (j := nu q 69 l) (by have := e.2; omega) (by rw [e2]; decide))
  obtain ⟨M2, x, z, e2, H2, eA, G2, z6, t2⟩ := R_recv (T0 := T0) (MI := MI) H1 G hl hh6 hr40 s05 h69 h68 ha F2 F3 fb p1
  have hbc : xcls M1 b 2 = true := by
    have := F3 r hr40
    rw [fb] at this
    exact (hd_st this).2
  have g13' : xgetR M1 ll[l] 6 13 = some (pk l) := (lt_g H1 hl).2.2.2
  rw [eA]
  have st : xZ T0 MI 114 0 [some (vr (some X)), some (vr (some a)), some (vr (some ll[l])), o3, o4, o5] [] M = xZ T0 MI 114 30 [some (vr (some X)), some (vr (some a)), some (vr (some ll[l])), some (vr (some b)), o4, o5] [vi x] M2 := by
    rw [bq_114_0, Option.bind_some, g3, Option.bind_some, Option.bind_some, hac, cond_true, ch]
    simp (decide := true) (disch := omega) only [Option.bind_some, xasI, xasL, xasR, xin_t, cond_true, cond_false, nI_clamp, k_0, k_1, k_2, k_3, k_4, k_5, k_6, k_40, k_60, k_500, k_10000, pk_mul, nI_add, nI_e0, nI_ee, nI_leI, nI_ltI, xbool0, xbool1, xbn0, xbn1, xb_0, xb_1, reduceIte, one0, Option.isNone_none, ne_eq, not_true_eq_false, not_false_eq_true, if_true, if_false, ite_not, Bool.true_and, Bool.and_true]
    rw [bq_114_8, Option.isNone_some, cond_false, bq_114_13, Option.bind_some, g13', Option.bind_some, p1, Option.isNone_some, cond_false, bq_114_21, Option.bind_some, g13', Option.bind_some, Option.bind_some, hbc, cond_true, p1, e2]
    simp (decide := true) (disch := omega) only [Option.bind_some, xasI, xasL, xasR, xin_t, cond_true, cond_false, nI_clamp, k_0, k_1, k_2, k_3, k_4, k_5, k_6, k_40, k_60, k_500, k_10000, pk_mul, nI_add, nI_e0, nI_ee, nI_leI, nI_ltI, xbool0, xbool1, xbn0, xbn1, xb_0, xb_1, reduceIte, one0, Option.isNone_none, ne_eq, not_true_eq_false, not_false_eq_true, if_true, if_false, ite_not, Bool.true_and, Bool.and_true]
  rw [st, bq_114_30]
  have t12 : stp (fun t => t.1 ≠ 10 + h ∧ t.1 ≠ 100 + (40 * h + r)) 11 229 ow M ow1 M2 := stp_tr t1 (stp_w t2 (fun t ht => ht.2) (Nat.le_refl _) (Nat.le_refl _))
  by_cases cx : x = Int32.ofInt (-2)
  · rw [if_pos cx, if_pos cx]
    exact ⟨M2, ow1, ll, pk, by rw [bq_114_39], H2, stp_w (ext_of t12 (fun t ht => by omega) (Nat.le_refl _) (Nat.le_refl _)) (fun _ h => h) (by omega) (by omega)⟩
  · rw [if_neg cx, if_neg cx]
    obtain ⟨⟨-, g1', -, g3', g4'⟩, ⟨-, g6', -, -, -⟩, ⟨lo', lb'⟩, -⟩ := lt_g H2 hl
    rw [z6 62 l (by decide)] at g1'
    rw [z6 63 l (by decide), e63] at g3'
    rw [z6 64 l (by decide)] at g4'
    rw [z6 67 l (by decide)] at g6'
    obtain ⟨_, _, _, _, ghM, _⟩ := hs_acc (T0 := T0) (MI := MI) (r := r) H2 hh6 hr40 ha
    obtain ⟨M3, ow3, p3, h3, l3, s3⟩ := c_post (T0 := T0) (MI := MI) (kd := nI 5) (fr := nI h) (to := q.1 62 l) (rg := nI r) (ep := q.1 64 l) (o6 := none) H2.2.1 hroom (le_objs H2.2.2.2.2.2.2.1)
    obtain ⟨M4, p4, l4, s4⟩ := le_i l3 6 (q.1 67 l) (by decide)
    obtain ⟨M5, p5, l5, s5⟩ := le_i l4 7 x (by decide)
    have g6M : xgetI M3 ll[l] 6 6 = some (q.1 67 l) := by
      rw [(get_f s3 lb' (by rw [lo']; simp)).1]
      exact g6'
    have sB : stp (fun t => ¬ inP 1 5 6 t ∧ t.1 ≠ 2000 + ll.length) 2 (2 * ll.length + 26) ow1 M2 ow3 M5 := stp_tr (stp_tr (stp_w s3 (fun t ht => ht.1) (Nat.le_refl _) (Nat.le_refl _)) (stp_w s4 (fun t ht => ht.2) (Nat.le_refl _) (Nat.le_refl _))) (stp_w s5 (fun t ht => ht.2) (Nat.le_refl _) (Nat.le_refl _))
    have nz : nu z.1 82 0 = nu q 82 0 := nu_e (z6 82 0 (by decide))
    obtain ⟨z1, z2⟩ := G2.2.2 ll.length (by omega) hroom
    have en : nlq z.1 ll.length (gtook z.1 ll.length l h r x) := nlq_up (nlq_up (nlq_new _ _ _ _ _ _ _) (by decide)) (by decide)
    have ev : ((gtook z.1 ll.length l h r x).1 60 ll.length = nI 5 ∧ (gtook z.1 ll.length l h r x).1 61 ll.length = q.1 62 l ∧ (gtook z.1 ll.length l h r x).1 62 ll.length = nI h ∧ (gtook z.1 ll.length l h r x).1 63 ll.length = nI r ∧ (gtook z.1 ll.length l h r x).1 64 ll.length = q.1 64 l) ∧ (gtook z.1 ll.length l h r x).1 66 ll.length = Int32.ofInt (-9) ∧ (gtook z.1 ll.length l h r x).1 67 ll.length = q.1 67 l ∧ (gtook z.1 ll.length l h r x).1 68 ll.length = x ∧ (gtook z.1 ll.length l h r x).1 69 ll.length = Int32.ofInt (-9) := by
      unfold gtook gnew
      rw [z6 62 l (by decide), z6 64 l (by decide), z6 67 l (by decide)]
      simp (decide := true) only [rup_r, and_true, and_false, false_and, true_and, reduceIte, and_self]
    have R3 := Rep_nl (q' := gtook z.1 ll.length l h r x) (L' := z.2) (par := none) H2 G2 hroom sB (FH_f (FH_f h3 s4 (fun t a => by omega) (fun t a => by omega) (qe_rf _ _ _) (qe_rf _ _ _)) s5 (fun t a => by omega) (fun t a => by omega) (qe_rf _ _ _) (qe_rf _ _ _)) ⟨_, _, _, _, l5, by
      unfold leT
      rw [ev.1.1, ev.1.2.1, ev.1.2.2.1, ev.1.2.2.2.1, ev.1.2.2.2.2, ev.2.1, ev.2.2.1, ev.2.2.2.1, ev.2.2.2.2, (en.2.2.2.2.2 _).1, (en.2.2.2.2.2 _).2, z1, z2]
      exact ⟨⟨rfl, rfl, rfl, rfl, rfl, rfl, rfl, rfl, rfl, rfl⟩, fun h => absurd h (by decide), fun h => absurd h (by decide), fun h => absurd h (by decide), fun h => absurd h (by decide), Or.inl ⟨rfl, rfl⟩⟩⟩ en rfl rfl rfl (fun _ _ => rfl)
    refine ⟨M5, ow3, ll ++ [M2.1], _, ?_, by rw [← n82]; exact R3, stp_w (stp_tr (ext_of t12 (fun t ht => by omega) (Nat.le_refl _) (Nat.le_refl _)) (ext_of sB (fun t ht => by rcases ht with h | h <;> exact ⟨fun e => by have := e.1; omega, by omega⟩) (Nat.le_refl _) (Nat.le_refl _))) (fun _ h => h) (by omega) (by omega)⟩
    rw [bq_114_40, Option.bind_some, ghM, Option.bind_some, Option.bind_some, g1', Option.bind_some, Option.bind_some, g3', Option.bind_some, Option.bind_some, g4', Option.bind_some, (ho_c H2.2.1).1, cond_true]
    rw [show xZ T0 MI 101 0 [some (vr (some X)), some (vi (Int32.ofInt 5)), some (vi (nI h)), some (vi (q.1 62 l)), some (vi (nI r)), some (vi (q.1 64 l)), none] [] M2 = some (some (vr (some M2.1)), M3) from p3]
    simp (decide := true) (disch := omega) only [Option.bind_some, xasI, xasL, xasR, xin_t, cond_true, cond_false, nI_clamp, k_0, k_1, k_2, k_3, k_4, k_5, k_6, k_40, k_60, k_500, k_10000, pk_mul, nI_add, nI_e0, nI_ee, nI_leI, nI_ltI, xbool0, xbool1, xbn0, xbn1, xb_0, xb_1, reduceIte, one0, Option.isNone_none, ne_eq, not_true_eq_false, not_false_eq_true, if_true, if_false, ite_not, Bool.true_and, Bool.and_true]
    rw [bq_114_61, Option.bind_some, g6M, Option.bind_some, Option.bind_some, p4, Option.bind_some, Option.bind_some, p5, Option.bind_some]
