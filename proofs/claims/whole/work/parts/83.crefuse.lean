/-! a change in the house alone; refuse -/
theorem Rep_ho {T0 X n x y : Nat} {ad : Nat → Nat} {fh fp : Nat → Option Nat} {cl ll dl : List Nat} {aa : Nat → Nat} {pk : Nat → Option Nat} {q q' : xrho} {L : xLs} {M M' : xM} {ow ow' : xOw} (H : Rep T0 X n ad fh fp cl ll dl aa pk q L M ow) (B : bds q) (hs : stp (fun t => t.1 ≠ 1) x y ow M ow' M') (hH : FH T0 M' ow' X ad fh fp cl ll dl q') (e : ∀ k i, k ≠ 1 → k ≠ 12 → k ≠ 13 → k ≠ 14 → q'.1 k i = q.1 k i) (eL : ∀ k i, q'.2 k i = q.2 k i) : Rep T0 X n ad fh fp cl ll dl aa pk q' L M' ow' := by
  obtain ⟨H0, H1, H2, H3, H4, H5, H6, H7⟩ := H
  have hll : ll.length ≤ 1200 := by rw [H6.1]; exact B.2.2.1.2
  have hcl : cl.length ≤ 6 := by rw [H4.1]; exact B.1.2
  refine ⟨hs.2.1.2 H0, hH, FT_f H2 hs ⟨fun t a b => ?_, fun t a b => ?_, fun t a => ?_, fun t a => ?_⟩ (fun k i a b => e k i (by omega) (by omega) (by omega) (by omega)) (fun k i a b => e k i (by omega) (by omega) (by omega) (by omega)) (fun p hp => hs_of (fun k i a b => e k i (by omega) (by omega) (by omega) (by omega)) (fun k i a b => e k i (by omega) (by omega) (by omega) (by omega)) (fun k i a b => e k i (by omega) (by omega) (by omega) (by omega)) rfl rfl (fun _ _ => rfl) (fun _ _ => rfl)), FP_f H3 hs (fun t a b => ?_) (fun t a => ?_) (fun k i a b => e k i (by omega) (by omega) (by omega) (by omega)), FC_f H4 hcl hs (fun t a b => ?_) (fun t a => ?_) (fun t a => ?_) (fun k i a b => e k i (by omega) (by omega) (by omega) (by omega)) (fun k i a b => e k i (by omega) (by omega) (by omega) (by omega)) (Nat.le_refl _), FA_f H5 B.1.2 (fun c hc => (B.2.1 c hc).2) hs (fun t a b => ?_) (fun k i a b => e k i (by omega) (by omega) (by omega) (by omega)) (fun k i _ _ => eL k i), FL_f H6 hll hs (fun t a b => ?_) (fun t a => ?_) (e 82 0 (by decide) (by decide) (by decide) (by decide)) (fun l hl => ls_of (fun k i a b => e k i (by omega) (by omega) (by omega) (by omega)) (fun k i _ _ => eL k i) (fun _ _ => rfl)), FD_f H7 (fun k i a b => e k i (by omega) (by omega) (by omega) (by omega)) (fun k i a b _ _ => e k i (by omega) (by omega) (by omega) (by omega))⟩ <;> omega
theorem oHo_w {T0 X : Nat} {M : xM} {ow : xOw} {ad : Nat → Nat} {fh fp : Nat → Option Nat} {cl ll dl : List Nat} {mk ov un mk' ov' un' : Int32} {g : Nat → Int32} (H : oHo T0 M ow X ad fh fp cl ll dl mk ov un g) (k : Nat) (v : xV) (hk : k < 9) (hv : [vr (some (ad 0)), vr (some (ad 1)), vr (some (ad 2)), vr (some (ad 3)), vr (some (ad 4)), vr (some (ad 5)), vi mk, vi ov, vi un].set k v = [vr (some (ad 0)), vr (some (ad 1)), vr (some (ad 2)), vr (some (ad 3)), vr (some (ad 4)), vr (some (ad 5)), vi mk', vi ov', vi un']) : ∃ M', xput M X 11 k v = some M' ∧ oHo T0 M' ow X ad fh fp cl ll dl mk' ov' un' g ∧ stp (fun t => t ≠ (1, 0)) 0 0 ow M ow M' := by
  obtain ⟨h1, h2, h3, h4, ⟨o1, o2, o3, o4⟩, b, l1, l2, l3⟩ := H
  have hs : stp (fun t => t ≠ (1, 0)) 0 0 ow M ow (xset M X (.inr (11, [vr (some (ad 0)), vr (some (ad 1)), vr (some (ad 2)), vr (some (ad 3)), vr (some (ad 4)), vr (some (ad 5)), vi mk', vi ov', vi un']))) := stp_set (by rw [o1]; exact fun h => h rfl)
  refine ⟨_, (pV h1 k (by show Nat.blt k 9 = true; simp [Nat.blt]; omega) v).trans (by rw [hv]), ⟨xset_at _ _ _, ?_, ?_, ?_, ⟨o1, o2, o3, o4⟩, b, oList_f l1 hs (fun t ht e => ?_) (fun t ht e => ?_), oList_f l2 hs (fun t ht e => ?_) (fun t ht e => ?_), oList_f l3 hs (fun t ht e => ?_) (fun t ht e => ?_)⟩, hs⟩
  · rw [xset_ne _ _ (ow_ne o2 o1 (by simp))]; exact h2
  · rw [xset_ne _ _ (ow_ne o3 o1 (by simp))]; exact h3
  · rw [xset_ne _ _ (ow_ne o4 o1 (by simp))]; exact h4
  · rw [e] at ht; exact absurd ht.2.1 (by decide)
  · rw [e] at ht; exact absurd ht (by decide)
  · rw [e] at ht; exact absurd ht.2.1 (by decide)
  · rw [e] at ht; exact absurd ht (by decide)
  · rw [e] at ht; exact absurd ht.2.1 (by decide)
  · rw [e] at ht; exact absurd ht (by decide)
/-- the refused array -/
theorem oHo_r {T0 X i : Nat} {M : xM} {ow : xOw} {ad : Nat → Nat} {fh fp : Nat → Option Nat} {cl ll dl : List Nat} {mk ov un x : Int32} {g : Nat → Int32} (H : oHo T0 M ow X ad fh fp cl ll dl mk ov un g) (hi : i < 7) : ∃ M', xsI M (ad 5) (nI i) x = some M' ∧ oHo T0 M' ow X ad fh fp cl ll dl mk ov un (upd g i x) ∧ stp (fun t => t ≠ (1, 9)) 0 0 ow M ow M' := by
  obtain ⟨h1, h2, h3, h4, ⟨o1, o2, o3, o4⟩, b, l1, l2, l3⟩ := H
  have hs : stp (fun t => t ≠ (1, 9)) 0 0 ow M ow (xset M (ad 5) (.inl (0, 7, .inl (upd g i x)))) := stp_set (by rw [o4]; exact fun h => h rfl)
  refine ⟨_, ?_, ⟨?_, ?_, ?_, xset_at _ _ _, ⟨o1, o2, o3, o4⟩, b, oList_f l1 hs (fun t ht e => ?_) (fun t ht e => ?_), oList_f l2 hs (fun t ht e => ?_) (fun t ht e => ?_), oList_f l3 hs (fun t ht e => ?_) (fun t ht e => ?_)⟩, hs⟩
  · rw [sI h4, xin_t hi (by decide), cond_true, nI_clamp (by omega)]
  · rw [xset_ne _ _ (ow_ne o1 o4 (by simp))]; exact h1
  · rw [xset_ne _ _ (ow_ne o2 o4 (by simp))]; exact h2
  · rw [xset_ne _ _ (ow_ne o3 o4 (by simp))]; exact h3
  · rw [e] at ht; exact absurd ht.2.2 (by decide)
  · rw [e] at ht; exact absurd ht (by decide)
  · rw [e] at ht; exact absurd ht.2.2 (by decide)
  · rw [e] at ht; exact absurd ht (by decide)
  · rw [e] at ht; exact absurd ht.2.2 (by decide)
  · rw [e] at ht; exact absurd ht (by decide)
theorem upd_at (g : Nat → Int32) (i : Nat) (x : Int32) : upd g i x i = x := by simp [upd]
theorem upd_ne (g : Nat → Int32) {i j : Nat} (x : Int32) (h : j ≠ i) : upd g i x j = g j := by simp [upd, h]
theorem R_refuse {T0 MI X n i : Nat} {ad : Nat → Nat} {fh fp : Nat → Option Nat} {cl ll dl : List Nat} {aa : Nat → Nat} {pk : Nat → Option Nat} {q : xrho} {L : xLs} {M : xM} {ow : xOw} {x : Int32} (H : Rep T0 X n ad fh fp cl ll dl aa pk q L M ow) (B : bds q) (hi : 1 ≤ i ∧ i ≤ 6) (hx : x = Int32.ofInt (-i)) : ∃ M', xZ T0 MI 96 0 [some (vr (some X)), some (vi x)] [] M = some (some (vi x), M') ∧ Rep T0 X n ad fh fp cl ll dl aa pk (gref q i) L M' ow ∧ stp (fun t => t.1 ≠ 1) 0 0 ow M ow M' := by
  obtain ⟨g, ho, hg⟩ := H.2.1
  have c5 := (ho_c H.2.1).2.2.2.2.2.2.1
  obtain ⟨M', e1, h1, s1⟩ := oHo_r (x := g i + Int32.ofInt 1) ho (show i < 7 by omega)
  have s2 : stp (fun t => t.1 ≠ 1) 0 0 ow M ow M' := stp_w s1 (fun t ht e => ht (by rw [e])) (Nat.le_refl _) (Nat.le_refl _)
  have rd : xaI M (ad 5) (nI i) = some (g i) := by
    rw [aI ho.2.2.2.1, xin_t (by omega) (by decide), cond_true, nI_clamp (by omega)]
  have hneg : -x = nI i := by
    rw [hx]
    obtain ⟨a, b⟩ := hi
    have : i = 1 ∨ i = 2 ∨ i = 3 ∨ i = 4 ∨ i = 5 ∨ i = 6 := by omega
    rcases this with rfl | rfl | rfl | rfl | rfl | rfl <;> decide
  have l1 : ¬ Int32.ofInt (-1) < x := by
    rw [hx]
    obtain ⟨a, b⟩ := hi
    have : i = 1 ∨ i = 2 ∨ i = 3 ∨ i = 4 ∨ i = 5 ∨ i = 6 := by omega
    rcases this with rfl | rfl | rfl | rfl | rfl | rfl <;> decide
  have l2 : ¬ x < Int32.ofInt (-6) := by
    rw [hx]
    obtain ⟨a, b⟩ := hi
    have : i = 1 ∨ i = 2 ∨ i = 3 ∨ i = 4 ∨ i = 5 ∨ i = 6 := by omega
    rcases this with rfl | rfl | rfl | rfl | rfl | rfl <;> decide
  refine ⟨M', ?_, Rep_ho H B s2 ⟨upd g i (g i + Int32.ofInt 1), ?_, fun j hj => ?_⟩ (fun k j a _ _ _ => ?_) (fun k j => rfl), s2⟩
  · rw [bq_96_0, if_neg l1, bq_96_5, if_neg l2, bq_96_11, c5, Option.bind_some, Option.bind_some, hneg, rd, Option.bind_some, Option.bind_some, e1, Option.bind_some, bq_96_22]
  · unfold gref
    rw [rup_ne _ _ _ _ (by decide), rup_ne _ _ _ _ (by decide), rup_ne _ _ _ _ (by decide)]
    exact h1
  · unfold gref
    by_cases ej : j = i
    · subst ej
      rw [rup_at, upd_at, hg j hj]
    · rw [rup_nx _ _ _ _ ej, upd_ne _ _ ej]
      exact hg j hj
  · unfold gref
    rw [rup_ne _ _ _ _ a]
