/-! BOTH SIDES IN ONE MEMORY -/
theorem Rep_7 {T0 X n x y : Nat} {ad : Nat → Nat} {fh fp : Nat → Option Nat} {cl ll dl : List Nat} {aa : Nat → Nat} {pk : Nat → Option Nat} {q : xrho} {L : xLs} {M M' : xM} {ow ow' : xOw} (H : Rep T0 X n ad fh fp cl ll dl aa pk q L M ow) (B : bds q) (hs : stp (fun t => t.1 ≠ 7) x y ow M ow' M') : Rep T0 X n ad fh fp cl ll dl aa pk q L M' ow' := by
  obtain ⟨H0, ⟨g, H1, H1'⟩, H2, H3, H4, H5, H6, H7⟩ := H
  have hll : ll.length ≤ 1200 := by rw [H6.1]; exact B.2.2.1.2
  have hcl : cl.length ≤ 6 := by rw [H4.1]; exact B.1.2
  refine ⟨hs.2.1.2 H0, ⟨g, oHo_f H1 hs (fun t a => ?_) (fun t a => ?_), H1'⟩, FT_f H2 hs ⟨fun t a b => ?_, fun t a b => ?_, fun t a => ?_, fun t a => ?_⟩ (qe_rf _ _ _) (qe_rf _ _ _) (fun p hp => hs_rf _ _ _ _), FP_f H3 hs (fun t a b => ?_) (fun t a => ?_) (qe_rf _ _ _), FC_f H4 hcl hs (fun t a b => ?_) (fun t a => ?_) (fun t a => ?_) (qe_rf _ _ _) (qe_rf _ _ _) (Nat.le_refl _), FA_f H5 B.1.2 (fun c hc => (B.2.1 c hc).2) hs (fun t a b => ?_) (qe_rf _ _ _) (qeL_rf _ _ _), FL_f H6 hll hs (fun t a b => ?_) (fun t a => ?_) rfl (fun l hl => ls_of (qe_rf _ _ _) (qeL_rf _ _ _) (fun _ _ => rfl)), H7⟩ <;> omega
theorem RepE_7 {T0 X n x y : Nat} {q : xrho} {L : xLs} {M M' : xM} {ow ow' : xOw} (H : RepE T0 X n q L M ow) (B : bds q) (hs : stp (fun t => t.1 ≠ 7) x y ow M ow' M') : RepE T0 X n q L M' ow' := by
  obtain ⟨ad, fh, fp, cl, ll, dl, aa, pk, H⟩ := H
  exact ⟨ad, fh, fp, cl, ll, dl, aa, pk, Rep_7 H B hs⟩
theorem RepE_n {T0 X n n' : Nat} {q : xrho} {L : xLs} {M : xM} {ow : xOw} (H : RepE T0 X n q L M ow) (h : n ≤ n') : RepE T0 X n' q L M ow := by
  obtain ⟨ad, fh, fp, cl, ll, dl, aa, pk, H⟩ := H
  exact ⟨ad, fh, fp, cl, ll, dl, aa, pk, Rep_n H h⟩
/-- the state of both sides behind n calls -/
def LSd (N0 T0 X B b Ln : Nat) (xs : Nat → Int32) (n : Nat) (M : xM) (ow : xOw) (q : xrho) (L : xLs) : Prop := RepE T0 X n q L M ow ∧ PN q L n (100 * (n : Int) + 100) ∧ LX q L ∧ rput B q M = M ∧ (B + 83 ≤ M.1 ∧ ∀ a, B ≤ a → a < B + 83 → (ow a).1 = 7) ∧ tOK T0 M ow ∧ (b < M.1 ∧ (ow b).1 = 8 ∧ M.2.2 b = .inl (9, Ln, .inl xs)) ∧ M.1 ≤ N0 + 300 + 60 * n + 12 * nu q 82 0 ∧ M.2.1 ≤ 900000 + 8000 * n + phi (nu q 82 0)
def LwS (N0 T0 X B b Ln : Nat) (xs : Nat → Int32) (n : Nat) (M : xM) : Prop := ∃ ow q L, LSd N0 T0 X B b Ln xs n M ow q L
/-- what the law reads between the two calls -/
def SC (X B b Ln : Nat) (xs : Nat → Int32) (M : xM) : Prop := xcls M X 11 = true ∧ xcls M B 12 = true ∧ M.2.2 b = .inl (9, Ln, .inl xs)
theorem rput_i {B : Nat} {q : xrho} {M : xM} : rput B q M = M ↔ ∀ a, B ≤ a → a < B + 83 → M.2.2 a = rcell B q (a - B) := by
  constructor
  · intro h a h1 h2
    have := congrArg (fun z => z.2.2 a) h
    have e : (rput B q M).2.2 a = rcell B q (a - B) := by
      show (if B ≤ a ∧ a < B + 83 then _ else _) = _
      rw [if_pos ⟨h1, h2⟩]
    rw [← e, h]
  · intro h
    refine Prod.ext rfl (Prod.ext rfl (funext fun a => ?_))
    show (if B ≤ a ∧ a < B + 83 then rcell B q (a - B) else M.2.2 a) = _
    by_cases c : B ≤ a ∧ a < B + 83
    · rw [if_pos c, h a c.1 c.2]
    · rw [if_neg c]
theorem rput_2 (B : Nat) (q q' : xrho) (M : xM) : rput B q (rput B q M) = rput B q M := by
  refine Prod.ext rfl (Prod.ext rfl (funext fun a => ?_))
  show (if B ≤ a ∧ a < B + 83 then rcell B q (a - B) else if B ≤ a ∧ a < B + 83 then rcell B q (a - B) else M.2.2 a) = if B ≤ a ∧ a < B + 83 then rcell B q (a - B) else M.2.2 a
  by_cases c : B ≤ a ∧ a < B + 83
  · rw [if_pos c, if_pos c]
  · rw [if_neg c, if_neg c]
theorem RepE_c {T0 X n : Nat} {q : xrho} {L : xLs} {M : xM} {ow : xOw} (H : RepE T0 X n q L M ow) : xcls M X 11 = true := by
  obtain ⟨ad, fh, fp, cl, ll, dl, aa, pk, H⟩ := H
  exact (ho_c H.2.1).1
theorem phi_mono {a b : Nat} (h : a ≤ b) : phi a ≤ phi b := by
  unfold phi
  have := Nat.mul_le_mul h h
  omega
theorem LS_go {N0 T0 X B b Ln n n1 x y : Nat} {xs : Nat → Int32} {M M1 : xM} {ow ow1 : xOw} {q q1 q2 : xrho} {L L1 : xLs} (D : LSd N0 T0 X B b Ln xs n M ow q L) (hn : n ≤ 512) (H1 : RepE T0 X n1 q1 L1 M1 ow1) (hn1 : n1 ≤ n + 1) (s : stp ext x y ow M ow1 M1) (P1 : PN q1 L1 (n + 1) (100 * (n : Int) + 100 + 100)) (f : fl2 q1 q2) (X2 : LX q2 L1) (hl : nu q 82 0 ≤ nu q1 82 0) (hx : x + 12 * nu q 82 0 ≤ 60 + 12 * nu q1 82 0) (hy : y + phi (nu q 82 0) ≤ 8000 + phi (nu q1 82 0)) : rput B q M1 = M1 ∧ SC X B b Ln xs M1 ∧ LwS N0 T0 X B b Ln xs (n + 1) (rput B q2 M1) := by
  obtain ⟨d1, d2, d3, d4, ⟨d5, d6⟩, d7, ⟨d8, d9, d10⟩, d11, d12⟩ := D
  have c7 : ∀ a, B ≤ a → a < B + 83 → M1.2.2 a = M.2.2 a := fun a h1 h2 => (s.2.2.2 a (by omega)).2 (Or.inl (d6 a h1 h2))
  have w7 : ∀ a, B ≤ a → a < B + 83 → (ow1 a).1 = 7 := fun a h1 h2 => by rw [(s.2.2.2 a (by omega)).1]; exact d6 a h1 h2
  have e1 : rput B q M1 = M1 := rput_i.mpr (fun a h1 h2 => by rw [c7 a h1 h2]; exact rput_i.mp d4 a h1 h2)
  have b1 : M1.2.2 b = .inl (9, Ln, .inl xs) := by rw [(s.2.2.2 b d8).2 (Or.inr d9)]; exact d10
  have s1 := s.1
  have s2 := s.2.1.1
  have s3 := s.2.2.1
  have bb : bds q1 := N_bds P1.2.1 (by omega)
  have nb : ∀ a, a < M1.1 → (ow1 a).1 ≠ 7 → ¬ (B ≤ a ∧ a < B + 83) := fun a _ h c => h (w7 a c.1 c.2)
  have st : stp (fun t => t.1 ≠ 7) 0 0 ow1 M1 ow1 (rput B q2 M1) := ⟨Nat.le_refl _, ⟨Nat.le_refl _, id⟩, Nat.le_refl _, fun a ha => ⟨rfl, fun h => by
    show (if B ≤ a ∧ a < B + 83 then _ else _) = _
    rw [if_neg (nb a ha h)]⟩⟩
  have e82 : nu q2 82 0 = nu q1 82 0 := nu_f f rfl
  refine ⟨e1, ⟨RepE_c H1, by rw [← e1]; exact r_cls _ _ _, b1⟩, ow1, q2, L1, RepE_fl2 f (RepE_7 (RepE_n H1 hn1) bb st), ?_, X2, rput_2 B q2 q2 M1, ⟨by show B + 83 ≤ M1.1; omega, w7⟩, ?_, ⟨by show b < M1.1; omega, by rw [(s.2.2.2 b d8).1]; exact d9, ?_⟩, ?_, ?_⟩
  · have := PN_fl2 f P1
    have e : (100 * ((n + 1 : Nat) : Int) + 100) = 100 * (n : Int) + 100 + 100 := by omega
    rw [e]
    exact this
  · exact tOK_f (tOK_f d7 s (fun t h => Or.inr h)) st (fun t h => by omega)
  · have wb : (ow1 b).1 = 8 := by rw [(s.2.2.2 b d8).1]; exact d9
    rw [(st.2.2.2 b (by omega)).2 (by show (ow1 b).1 ≠ 7; omega)]
    exact b1
  · rw [e82]
    show M1.1 ≤ _
    omega
  · rw [e82]
    show M1.2.1 ≤ _
    omega
