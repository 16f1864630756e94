/-! the book changed; posting -/
theorem Rep_bk {T0 X n x y : Nat} {fp' : Nat → Option Nat} {ad : Nat → Nat} {fh fp : Nat → Option Nat} {cl ll dl : List Nat} {aa : Nat → Nat} {pk : Nat → Option Nat} {q q' : xrho} {L : xLs} {M M' : xM} {ow ow' : xOw} (H : Rep T0 X n ad fh fp cl ll dl aa pk q L M ow) (B : bds q) (hs : stp (fun t => t.1 ≠ 1 ∧ ¬ (400 ≤ t.1 ∧ t.1 < 440)) x y ow M ow' M') (hH : FH T0 M' ow' X ad fh fp' cl ll dl q') (hP : FP M' ow' fp' q') (e : ∀ k i, k = 0 ∨ 15 ≤ k → q'.1 k i = q.1 k i) (eL : ∀ k i, q'.2 k i = q.2 k i) : Rep T0 X n ad fh fp' cl ll dl aa pk q' L M' ow' := by
  obtain ⟨H0, H1, H2, H3, H4, H5, H6, H7⟩ := H
  have hll : ll.length ≤ 1200 := by rw [H6.1]; exact B.2.2.1.2
  have hcl : cl.length ≤ 6 := by rw [H4.1]; exact B.1.2
  refine ⟨hs.2.1.2 H0, hH, FT_f H2 hs ⟨fun t a b => ?_, fun t a b => ?_, fun t a => ?_, fun t a => ?_⟩ (fun k i a b => e k i (by omega)) (fun k i a b => e k i (by omega)) (fun p hp => hs_of (fun k i a b => e k i (by omega)) (fun k i a b => e k i (by omega)) (fun k i a b => e k i (by omega)) rfl rfl (fun _ _ => rfl) (fun _ _ => rfl)), hP, FC_f H4 hcl hs (fun t a b => ?_) (fun t a => ?_) (fun t a => ?_) (fun k i a b => e k i (by omega)) (fun k i a b => e k i (by omega)) (Nat.le_refl _), FA_f H5 B.1.2 (fun c hc => (B.2.1 c hc).2) hs (fun t a b => ?_) (fun k i a b => e k i (by omega)) (fun k i _ _ => eL k i), FL_f H6 hll hs (fun t a b => ?_) (fun t a => ?_) (e 82 0 (by omega)) (fun l hl => ls_of (fun k i a b => e k i (by omega)) (fun k i _ _ => eL k i) (fun _ _ => rfl)), FD_f H7 (fun k i a b => e k i (by omega)) (fun k i a b _ _ => e k i (by omega))⟩ <;> omega
/-- one page changed, at its place -/
theorem Rep_pg {T0 X n x y r : Nat} {ad : Nat → Nat} {fh fp : Nat → Option Nat} {cl ll dl : List Nat} {aa : Nat → Nat} {pk : Nat → Option Nat} {q q' : xrho} {L : xLs} {M M' : xM} {ow ow' : xOw} (H : Rep T0 X n ad fh fp cl ll dl aa pk q L M ow) (B : bds q) (hr : r < 40) (hs : stp (fun t => t.1 ≠ 400 + r) x y ow M ow' M') (hP : rPage M' ow' r (fp r) q') (e : ∀ k i, k < 2 ∨ 12 ≤ k → q'.1 k i = q.1 k i) (e2 : ∀ k i, k ≠ 9 → i ≠ r → q'.1 k i = q.1 k i) (e9 : ∀ i, i < 4 * r ∨ 4 * r + 4 ≤ i → q'.1 9 i = q.1 9 i) (eL : ∀ k i, q'.2 k i = q.2 k i) : Rep T0 X n ad fh fp cl ll dl aa pk q' L M' ow' := by
  refine Rep_bk H B (stp_w hs (fun t ht => by omega) (Nat.le_refl _) (Nat.le_refl _)) (FH_f H.2.1 hs (fun t a => by omega) (fun t a => by omega) (fun k i a b => e k i (by omega)) (fun k i a b => e k i (by omega))) (fun s hs2 => ?_) (fun k i a => e k i (by omega)) eL
  by_cases es : s = r
  · subst es
    exact hP
  · refine rPage_f (H.2.2.2.1 s hs2) hs (fun t a => by omega) (fun t a => by omega) (fun k a b c => e2 k s c es) ?_
    unfold obits obit
    rw [e9 _ (by rcases Nat.lt_or_gt_of_ne es with h | h <;> omega), e9 _ (by rcases Nat.lt_or_gt_of_ne es with h | h <;> omega), e9 _ (by rcases Nat.lt_or_gt_of_ne es with h | h <;> omega), e9 _ (by rcases Nat.lt_or_gt_of_ne es with h | h <;> omega)]
/-! a new spot; the page's own methods -/
theorem xdef10 : xdef 10 = [vi 0, vi 0, vi 0, vi 0, vi 0] := by decide
theorem c_newSp {T0 MI : Nat} {M : xM} {ow : xOw} {n lo hi e h : Int32} : ∃ M', xZ T0 MI 59 0 [some (vr (some M.1)), some (vi n), some (vi lo), some (vi hi), some (vi e), some (vi h)] [] (xnewO M 10) = some (none, M') ∧ isSpot M' (va_up ow M.1 (9999, 0)) M.1 n lo hi e h ∧ (∀ P, stp P 1 5 ow M (va_up ow M.1 (9999, 0)) M') := by
  have h1 : (xnewO M 10).2.2 M.1 = .inr (10, [vi 0, vi 0, vi 0, vi 0, vi 0]) := by rw [newO_at, xdef10]
  refine ⟨xset (xnewO M 10) M.1 (.inr (10, [vi n, vi lo, vi hi, vi e, vi h])), ?_, ⟨xset_at _ _ _, va_up_self _ _ _, Nat.lt_succ_self _⟩, fun P => ?_⟩
  · rw [bq_59_0, pV h1 0 rfl, Option.bind_some, pV (xset_at _ _ _) 1 rfl, Option.bind_some, xset_xset, pV (xset_at _ _ _) 2 rfl, Option.bind_some, xset_xset, pV (xset_at _ _ _) 3 rfl, Option.bind_some, xset_xset, pV (xset_at _ _ _) 4 rfl, Option.bind_some, xset_xset]
    rfl
  · obtain ⟨a1, a2, a3, a4⟩ := newO_f (c := 10) (o := (9999, 0)) P (ow := ow) (M := M) (fun _ => by show 9999 < _; omega) (y := 5) (by decide)
    refine ⟨a1, a2, a3, fun b hb => ⟨(a4 b hb).1, fun hP => ?_⟩⟩
    rw [xset_ne _ _ (by omega)]
    exact (a4 b hb).2 hP
theorem newO_c {M : xM} {c a : Nat} {z : xE} (h : M.2.2 a = z) (ha : a < M.1) : (xnewO M c).2.2 a = z := by
  rw [newO_ne (by omega)]
  exact h
theorem pg_start {T0 MI r a s : Nat} {M : xM} {ow : xOw} {gi ta mv uw od n lo hi e h x : Int32} (H : oPg M ow r a s gi ta mv uw od) (S : isSpot M ow s n lo hi e h) : ∃ M', xZ T0 MI 48 0 [some (vr (some a)), some (vi x)] [] M = some (none, M') ∧ oPg M' ow r a s h x (e + Int32.ofInt 1) 1 od ∧ stp (fun t => t.1 ≠ 400 + r) 0 0 ow M ow M' := by
  obtain ⟨h1, o, b⟩ := H
  obtain ⟨-, -, -, -, g3, g4⟩ := sp_g S
  have ne : ∀ z w : xE, (xset (xset M a z) a w).2.2 s = M.2.2 s := fun z w => by
    have : s ≠ a := by
      intro e
      rw [e] at S
      have := S.1
      rw [h1] at this
      cases this
    rw [xset_ne _ _ this, xset_ne _ _ this]
  refine ⟨xset M a (.inr (7, [vr (some s), vi h, vi x, vi (e + Int32.ofInt 1), vi 1, vi od])), ?_, ⟨xset_at _ _ _, o, b⟩, stp_set (by rw [o]; exact fun h => h rfl)⟩
  rw [bq_48_0, gR h1 0 rfl, Option.bind_some, Option.bind_some, g4, Option.bind_some, pV h1 1 rfl, Option.bind_some, pV (xset_at _ _ _) 2 rfl, Option.bind_some, gR (xset_at _ _ _) 0 rfl, Option.bind_some, Option.bind_some, gI ((ne _ _).trans S.1) 3 rfl, Option.bind_some, xset_xset, pV (xset_at _ _ _) 3 rfl, Option.bind_some, xset_xset]
  simp (decide := true) (disch := omega) only [Option.bind_some, xasI, xasL, xasR, xin_t, cond_true, cond_false, nI_clamp, k_0, k_1, k_2, k_3, k_4, k_5, k_6, k_40, k_60, k_500, k_10000, pk_mul, nI_add, nI_e0, nI_ee, nI_leI, nI_ltI, xbool0, xbool1, xbn0, xbn1, xb_0, xb_1, reduceIte, one0, Option.isNone_none, ne_eq, not_true_eq_false, not_false_eq_true, if_true, if_false, ite_not, Bool.true_and, Bool.and_true]
  rw [pV (xset_at _ _ _) 4 rfl, Option.bind_some, xset_xset]
  rfl
theorem pg_end {T0 MI r a s : Nat} {M : xM} {ow : xOw} {gi ta mv uw od n lo hi e h : Int32} (H : oPg M ow r a s gi ta mv uw od) (S : isSpot M ow s n lo hi e h) (hr : r < 40) : ∃ M' ow', xZ T0 MI 49 0 [some (vr (some a))] [] M = some (none, M') ∧ oPg M' ow' r a M.1 gi ta mv 0 (nI 3) ∧ isSpot M' ow' M.1 n lo hi mv ta ∧ stp (fun t => t.1 ≠ 400 + r) 1 5 ow M ow' M' := by
  obtain ⟨h1, o, b⟩ := H
  obtain ⟨M1, e1, s1, t1⟩ := c_newSp (T0 := T0) (MI := MI) (M := M) (ow := ow) (n := n) (lo := lo) (hi := hi) (e := mv) (h := ta)
  have h1' := newO_c (c := 10) h1 b
  have s1' := newO_c (c := 10) S.1 S.2.2
  have c1 := (t1 (fun _ => True)).2.2.2 a b
  have h2 : M1.2.2 a = _ := (c1.2 trivial).trans h1
  have hs2 : ∀ z, stp (fun t => t.1 ≠ 400 + r) 0 0 (va_up ow M.1 (9999, 0)) M1 (va_up ow M.1 (9999, 0)) (xset M1 a z) := fun z => stp_set (by rw [c1.1, o]; exact fun h => h rfl)
  refine ⟨xset M1 a (.inr (7, [vr (some M.1), vi gi, vi ta, vi mv, vi 0, vi (nI 3)])), va_up ow M.1 (9999, 0), ?_, ⟨xset_at _ _ _, c1.1.trans o, by have := (t1 (fun _ => True)).1; show a < M1.1; omega⟩, isSpot_f s1 (hs2 _) (fun t ht => by omega), stp_tr (t1 _) (hs2 _)⟩
  rw [bq_49_0]
  simp only [gR h1' 0 rfl, Option.bind_some, gI s1' 0 rfl, gI s1' 1 rfl, gI s1' 2 rfl, gI h1' 3 rfl, gI h1' 2 rfl, e1]
  simp (decide := true) (disch := omega) only [Option.bind_some, xasI, xasL, xasR, xin_t, cond_true, cond_false, nI_clamp, k_0, k_1, k_2, k_3, k_4, k_5, k_6, k_40, k_60, k_500, k_10000, pk_mul, nI_add, nI_e0, nI_ee, nI_leI, nI_ltI, xbool0, xbool1, xbn0, xbn1, xb_0, xb_1, reduceIte, one0, Option.isNone_none, ne_eq, not_true_eq_false, not_false_eq_true, if_true, if_false, ite_not, Bool.true_and, Bool.and_true, bq_49_37]
  rw [pV h2 0 rfl, Option.bind_some, pV (xset_at _ _ _) 4 rfl, Option.bind_some, xset_xset, pV (xset_at _ _ _) 5 rfl, Option.bind_some, xset_xset]
  rfl
theorem pg_undo {T0 MI r a s : Nat} {M : xM} {ow : xOw} {gi ta mv uw od n lo hi e h : Int32} (H : oPg M ow r a s gi ta mv uw od) (S : isSpot M ow s n lo hi e h) (hr : r < 40) : ∃ M' ow', xZ T0 MI 50 0 [some (vr (some a))] [] M = some (none, M') ∧ oPg M' ow' r a M.1 gi ta mv 0 (nI 12) ∧ isSpot M' ow' M.1 n lo hi (mv + nI 1) gi ∧ stp (fun t => t.1 ≠ 400 + r) 1 5 ow M ow' M' := by
  obtain ⟨h1, o, b⟩ := H
  obtain ⟨M1, e1, s1, t1⟩ := c_newSp (T0 := T0) (MI := MI) (M := M) (ow := ow) (n := n) (lo := lo) (hi := hi) (e := mv + nI 1) (h := gi)
  have h1' := newO_c (c := 10) h1 b
  have s1' := newO_c (c := 10) S.1 S.2.2
  have c1 := (t1 (fun _ => True)).2.2.2 a b
  have h2 : M1.2.2 a = _ := (c1.2 trivial).trans h1
  have hs2 : ∀ z, stp (fun t => t.1 ≠ 400 + r) 0 0 (va_up ow M.1 (9999, 0)) M1 (va_up ow M.1 (9999, 0)) (xset M1 a z) := fun z => stp_set (by rw [c1.1, o]; exact fun h => h rfl)
  refine ⟨xset M1 a (.inr (7, [vr (some M.1), vi gi, vi ta, vi mv, vi 0, vi (nI 12)])), va_up ow M.1 (9999, 0), ?_, ⟨xset_at _ _ _, c1.1.trans o, by have := (t1 (fun _ => True)).1; show a < M1.1; omega⟩, isSpot_f s1 (hs2 _) (fun t ht => by omega), stp_tr (t1 _) (hs2 _)⟩
  rw [bq_50_0]
  simp only [gR h1' 0 rfl, Option.bind_some, gI s1' 0 rfl, gI s1' 1 rfl, gI s1' 2 rfl, gI h1' 3 rfl, gI h1' 1 rfl, k_1, e1]
  simp (decide := true) (disch := omega) only [Option.bind_some, xasI, xasL, xasR, xin_t, cond_true, cond_false, nI_clamp, k_0, k_1, k_2, k_3, k_4, k_5, k_6, k_40, k_60, k_500, k_10000, pk_mul, nI_add, nI_e0, nI_ee, nI_leI, nI_ltI, xbool0, xbool1, xbn0, xbn1, xb_0, xb_1, reduceIte, one0, Option.isNone_none, ne_eq, not_true_eq_false, not_false_eq_true, if_true, if_false, ite_not, Bool.true_and, Bool.and_true, bq_50_39]
  rw [pV h2 0 rfl, Option.bind_some, pV (xset_at _ _ _) 4 rfl, Option.bind_some, xset_xset, pV (xset_at _ _ _) 5 rfl, Option.bind_some, xset_xset]
  rfl
/-! room of posting -/
def phi (l : Nat) : Nat := l * l + 200 * l
theorem phi_s (l : Nat) : phi (l + 1) = phi l + (2 * l + 201) := by
  unfold phi
  rw [Nat.add_mul, Nat.mul_add]
  omega
def psT (l l' : Nat) (ow : xOw) (M : xM) (ow' : xOw) (M' : xM) : Prop := l ≤ l' ∧ phi l ≤ phi l' ∧ stp ext (12 * (l' - l)) (phi l' - phi l) ow M ow' M'
theorem psT_rf (l : Nat) (ow : xOw) (M : xM) : psT l l ow M ow M := ⟨(Nat.le_refl _), (Nat.le_refl _), stp_w (stp_rf _ _ _) (fun _ h => h) (by omega) (by omega)⟩
theorem psT_tr {l l1 l2 : Nat} {ow ow1 ow2 : xOw} {M M1 M2 : xM} (h1 : psT l l1 ow M ow1 M1) (h2 : psT l1 l2 ow1 M1 ow2 M2) : psT l l2 ow M ow2 M2 := by
  obtain ⟨a1, a2, a3⟩ := h1
  obtain ⟨b1, b2, b3⟩ := h2
  exact ⟨by omega, by omega, stp_w (stp_tr a3 b3) (fun _ h => h) (by omega) (by omega)⟩
theorem psT_1 {l x y : Nat} {P : Nat × Nat → Prop} {ow ow' : xOw} {M M' : xM} (h : stp P x y ow M ow' M') (hP : ∀ t, ext t → P t) (hx : x ≤ 12) (hy : y ≤ 2 * l + 201) : psT l (l + 1) ow M ow' M' := ⟨Nat.le_succ _, by rw [phi_s]; omega, stp_w h hP (by omega) (by rw [phi_s]; omega)⟩
/-! what posting needs, and keeps -/
theorem bds_e {q q' : xrho} (B : bds q) (e : ∀ k i, (k = 45 ∨ k = 46 ∨ k = 82 ∨ k = 12 ∨ k = 44 ∨ k = 88) → q'.1 k i = q.1 k i) : bds q' := by
  have nn : ∀ k i, (k = 45 ∨ k = 46 ∨ k = 82 ∨ k = 12 ∨ k = 44 ∨ k = 88) → nu q' k i = nu q k i := fun k i h => nu_e (e k i h)
  unfold bds isN
  simp only [nn 45 0 (by omega), nn 46 _ (by omega), nn 82 0 (by omega), nn 12 0 (by omega), nn 44 0 (by omega), nn 88 0 (by omega), e 45 0 (by omega), e 46 _ (by omega), e 82 0 (by omega), e 12 0 (by omega), e 44 0 (by omega), e 88 0 (by omega)]
  exact B
def gOK (q : xrho) : Prop := bds q ∧ lastOK q ∧ frL q
theorem gOK_e {q q' : xrho} (H : gOK q) (e : ∀ k i, (k = 45 ∨ k = 46 ∨ k = 82 ∨ k = 12 ∨ k = 44 ∨ k = 88 ∨ k = 15 ∨ k = 32 ∨ k = 29 ∨ k = 65 ∨ k = 75) → q'.1 k i = q.1 k i) : gOK q' := by
  obtain ⟨B, G, F⟩ := H
  have nn : ∀ k i, (k = 45 ∨ k = 46 ∨ k = 82 ∨ k = 12 ∨ k = 44 ∨ k = 88 ∨ k = 15 ∨ k = 32 ∨ k = 29 ∨ k = 65 ∨ k = 75) → nu q' k i = nu q k i := fun k i h => nu_e (e k i h)
  refine ⟨?_, fun p hp a b => ?_, fun l a b => ?_⟩
  · exact bds_e B (fun k i hk => e k i (by omega))
  · rw [e 15 p (by omega)] at a
    rw [e 32 p (by omega)] at b
    rw [nn 29 p (by omega), nn 82 0 (by omega)]
    exact G p hp a b
  · rw [nn 82 0 (by omega)] at a
    rw [e 65 l (by omega), e 75 l (by omega)]
    exact F l a b
theorem gOK_new {q : xrho} {kd to fr rg ep : Int32} (H : gOK q) (hl : nu q 82 0 < 1200) : gOK (gnew q (nu q 82 0) kd to fr rg ep) := by
  obtain ⟨B, G, F⟩ := H
  obtain ⟨-, -, -, -, -, -, -, -, -, d9⟩ := gnew_at q (nu q 82 0) kd to fr rg ep
  have n82 : nu (gnew q (nu q 82 0) kd to fr rg ep) 82 0 = nu q 82 0 + 1 := by
    show ((gnew q (nu q 82 0) kd to fr rg ep).1 82 0).toNatClampNeg = _
    rw [d9, nI_clamp (by omega)]
  have eo : ∀ k i, ¬ (60 ≤ k ∧ k ≤ 69) ∨ k = 65 → k ≠ 82 → (gnew q (nu q 82 0) kd to fr rg ep).1 k i = q.1 k i := fun k i a b => gnew_o _ _ _ _ _ _ _ (by omega) b
  have nn : ∀ k i, ¬ (60 ≤ k ∧ k ≤ 69) ∨ k = 65 → k ≠ 82 → nu (gnew q (nu q 82 0) kd to fr rg ep) k i = nu q k i := fun k i a b => nu_e (eo k i a b)
  refine ⟨⟨?_, fun c hc => ?_, ⟨by rw [n82]; exact d9, by omega⟩, ?_, ?_, ?_⟩, fun p hp a b => ?_, fun l a b => ?_⟩
  · unfold isN; rw [nn 45 0 (by omega) (by omega), eo 45 0 (by omega) (by omega)]; exact B.1
  · unfold isN; rw [nn 46 c (by omega) (by omega), eo 46 c (by omega) (by omega)]; exact B.2.1 c hc
  · unfold isN; rw [nn 12 0 (by omega) (by omega), eo 12 0 (by omega) (by omega)]; exact B.2.2.2.1
  · unfold isN; rw [nn 44 0 (by omega) (by omega), eo 44 0 (by omega) (by omega)]; exact B.2.2.2.2.1
  · unfold isN; rw [nn 88 0 (by omega) (by omega), eo 88 0 (by omega) (by omega)]; exact B.2.2.2.2.2
  · rw [eo 15 p (by omega) (by omega)] at a
    rw [eo 32 p (by omega) (by omega)] at b
    have := G p hp a b
    rw [nn 29 p (by omega) (by omega), n82]
    omega
  · rw [eo 65 l (by omega) (by omega), eo 75 l (by omega) (by omega)]
    exact F l (by omega) b
/-- a letter more, in the reference's fields -/
def nlq (q : xrho) (l : Nat) (q' : xrho) : Prop := (∀ k i, ¬ (60 ≤ k ∧ k ≤ 76) → k ≠ 82 → q'.1 k i = q.1 k i) ∧ (∀ k i, 60 ≤ k → k ≤ 75 → k ≠ 74 → i < l → q'.1 k i = q.1 k i) ∧ (∀ i, i < 3 * l → q'.1 74 i = q.1 74 i ∧ q'.1 76 i = q.1 76 i ∧ q'.2 77 i = q.2 77 i) ∧ (∀ k i, k ≠ 77 → q'.2 k i = q.2 k i) ∧ q'.1 82 0 = nI (l + 1) ∧ ∀ i, q'.1 65 i = q.1 65 i ∧ q'.1 75 i = q.1 75 i
theorem nlq_new (q : xrho) (l : Nat) (kd to fr rg ep : Int32) : nlq q l (gnew q l kd to fr rg ep) := ⟨fun k i a b => gnew_o _ _ _ _ _ _ _ (Or.inl (by omega)) b, fun k i a b c d => gnew_o _ _ _ _ _ _ _ (Or.inr (Or.inr (by omega))) (by omega), fun i hi => ⟨gnew_o _ _ _ _ _ _ _ (Or.inl (by omega)) (by decide), gnew_o _ _ _ _ _ _ _ (Or.inl (by omega)) (by decide), rfl⟩, fun _ _ _ => rfl, (gnew_at q l kd to fr rg ep).2.2.2.2.2.2.2.2.2, fun i => ⟨gnew_o _ _ _ _ _ _ _ (Or.inr (Or.inl rfl)) (by decide), gnew_o _ _ _ _ _ _ _ (Or.inl (by decide)) (by decide)⟩⟩
theorem nlq_up {q q' : xrho} {l k : Nat} {x : Int32} (H : nlq q l q') (hk : 60 ≤ k ∧ k ≤ 73 ∧ k ≠ 65) : nlq q l (rup q' k l x) := by
  obtain ⟨h1, h2, h3, h4, h5, h6⟩ := H
  refine ⟨fun f i a b => ?_, fun f i a b c d => ?_, fun i hi => ?_, h4, ?_, fun i => ?_⟩
  · rw [rup_ne _ _ _ _ (by omega)]; exact h1 f i a b
  · rw [rup_r, if_neg (by omega)]; exact h2 f i a b c d
  · rw [rup_ne _ _ _ _ (by omega), rup_ne _ _ _ _ (by omega)]; exact h3 i hi
  · rw [rup_ne _ _ _ _ (by omega)]; exact h5
  · rw [rup_ne _ _ _ _ (by omega), rup_ne _ _ _ _ (by omega)]; exact h6 i
theorem Rep_nl {T0 X n x y b : Nat} {ad : Nat → Nat} {fh fp : Nat → Option Nat} {cl ll dl : List Nat} {aa : Nat → Nat} {pk : Nat → Option Nat} {q q' : xrho} {L L' : xLs} {M M' : xM} {ow ow' : xOw} {par : Option Nat} (H : Rep T0 X n ad fh fp cl ll dl aa pk q L M ow) (G : gOK q) (hl : ll.length < 1200) (hs : stp (fun t => ¬ inP 1 5 6 t ∧ t.1 ≠ 2000 + ll.length) x y ow M ow' M') (hH : FH T0 M' ow' X ad fh fp cl (ll ++ [b]) dl q) (hL : rLet M' ow' ll.length b q' L' aa par) (e : nlq q ll.length q') (hR : L'.1 = L.1) (hS : L'.2.1 = L.2.1) (hK : L'.2.2.1 = L.2.2.1) (hZ : ∀ i, i < 6 * ll.length → L'.2.2.2 i = L.2.2.2 i) : Rep T0 X n ad fh fp cl (ll ++ [b]) dl aa (va_up pk ll.length par) q' L' M' ow' := Rep_post H G.1 hl G.2.1 hs hH hL e.1 e.2.1 e.2.2.1 e.2.2.2.1 (by unfold nu; rw [e.2.2.2.2.1, nI_clamp (by omega)]) hR hS hK hZ
theorem gnew_L (q : xrho) (l : Nat) (kd to fr rg ep : Int32) {k : Nat} (hk : k = 70 ∨ k = 71 ∨ k = 72 ∨ k = 73) (i : Nat) : (gnew q l kd to fr rg ep).1 k i = q.1 k i := gnew_o _ _ _ _ _ _ _ (Or.inl (by omega)) (by omega)
theorem R_pbegin {T0 MI X n r a : Nat} {ad : Nat → Nat} {fh fp : Nat → Option Nat} {cl ll dl : List Nat} {aa : Nat → Nat} {pk : Nat → Option Nat} {q : xrho} {L : xLs} {M : xM} {ow : xOw} {o2 : Option xV} (H : Rep T0 X n ad fh fp cl ll dl aa pk q L M ow) (G : gOK q) (hl : ll.length < 1200) (hr : r < 40) (ha : fp r = some a) (h7 : ¬ q.1 7 r < 0) : ∃ M' ow' b, xZ T0 MI 103 0 [some (vr (some X)), some (vr (some a)), o2] [] M = some (none, M') ∧ Rep T0 X n ad fh fp cl (ll ++ [b]) dl aa (va_up pk ll.length none) (gbeg q ll.length r) L M' ow' ∧ psT ll.length (ll.length + 1) ow M ow' M' := by
  have n82 : ll.length = nu q 82 0 := H.2.2.2.2.2.2.1.1
  have hp := H.2.2.2.1 r hr
  rw [ha] at hp
  obtain ⟨h2, s, gi, ta, uw, ⟨p1, po, pb⟩, sp, u1, u2, u3⟩ := hp
  obtain ⟨-, g0, -⟩ := sp_g sp
  obtain ⟨-, v1, v2⟩ := u2 h7
  obtain ⟨M1, ow1, e1, h1, l2, s1⟩ := c_post (T0 := T0) (MI := MI) (kd := nI 3) (fr := nI 0) (to := gi) (rg := nI r) (ep := q.1 8 r) (o6 := none) H.2.1 hl (le_objs H.2.2.2.2.2.2.1)
  obtain ⟨M2, e2, h3, s2⟩ := le_i l2 8 ta (by decide)
  have sB : stp (fun t => ¬ inP 1 5 6 t ∧ t.1 ≠ 2000 + ll.length) 2 (2 * ll.length + 26) ow M ow1 M2 := stp_tr (stp_w s1 (fun t ht => ht.1) (Nat.le_refl _) (Nat.le_refl _)) (stp_w s2 (fun t ht => ht.2) (Nat.le_refl _) (Nat.le_refl _))
  obtain ⟨z1, z2⟩ := G.2.2 ll.length (by omega) hl
  obtain ⟨d0, d1, d2, d3, d4, d5, d6, d7, d8, d9⟩ := gnew_at q ll.length (Int32.ofInt 3) (q.1 6 r) (Int32.ofInt 0) (nI r) (q.1 8 r)
  refine ⟨M2, ow1, M.1, ?_, Rep_nl H G hl sB (FH_f h1 s2 (fun t a => by omega) (fun t a => by omega) (qe_rf _ _ _) (qe_rf _ _ _)) ⟨_, _, _, _, h3, ?_⟩ (nlq_up (nlq_new _ _ _ _ _ _ _) (by decide)) rfl rfl rfl (fun _ _ => rfl), psT_1 sB (fun t ht => by rcases ht with h | h <;> exact ⟨fun e => by have := e.1; omega, by omega⟩) (by decide) (by omega)⟩
  · have c1 := (s1.2.2.2 a pb)
    have p2 : M1.2.2 a = _ := (c1.2 (by rw [po]; simp)).trans p1
    rw [bq_103_0]
    simp (decide := true) (disch := omega) only [Option.bind_some, xasI, xasL, xasR, xin_t, cond_true, cond_false, nI_clamp, k_0, k_1, k_2, k_3, k_4, k_5, k_6, k_40, k_60, k_500, k_10000, pk_mul, nI_add, nI_e0, nI_ee, nI_leI, nI_ltI, xbool0, xbool1, xbn0, xbn1, xb_0, xb_1, reduceIte, one0, Option.isNone_none, ne_eq, not_true_eq_false, not_false_eq_true, if_true, if_false, ite_not, Bool.true_and, Bool.and_true, gI p1 1 rfl, gR p1 0 rfl, g0, gI p1 3 rfl, (ho_c H.2.1).1, e1]
    simp (decide := true) (disch := omega) only [bq_103_21, Option.bind_some, xasI, xasL, xasR, xin_t, cond_true, cond_false, nI_clamp, k_0, k_1, k_2, k_3, k_4, k_5, k_6, k_40, k_60, k_500, k_10000, pk_mul, nI_add, nI_e0, nI_ee, nI_leI, nI_ltI, xbool0, xbool1, xbn0, xbn1, xb_0, xb_1, reduceIte, one0, Option.isNone_none, ne_eq, not_true_eq_false, not_false_eq_true, if_true, if_false, ite_not, Bool.true_and, Bool.and_true, gI p2 2 rfl, e2]
  · unfold leT gbeg
    rw [rup_at, rup_ne _ _ _ _ (k' := 60) (by decide), rup_ne _ _ _ _ (k' := 61) (by decide), rup_ne _ _ _ _ (k' := 62) (by decide), rup_ne _ _ _ _ (k' := 63) (by decide), rup_ne _ _ _ _ (k' := 64) (by decide), rup_ne _ _ _ _ (k' := 65) (by decide), rup_ne _ _ _ _ (k' := 66) (by decide), rup_ne _ _ _ _ (k' := 67) (by decide), rup_ne _ _ _ _ (k' := 68) (by decide), rup_ne _ _ _ _ (k' := 69) (by decide), rup_ne _ _ _ _ (k' := 75) (by decide), d0, d1, d2, d3, d4, d5, d6, d7, d8, gnew_o (k := 65) _ _ _ _ _ _ _ (Or.inr (Or.inl rfl)) (by decide), gnew_o (k := 75) _ _ _ _ _ _ _ (Or.inl (by decide)) (by decide), z1, z2]
    exact ⟨⟨rfl, rfl, by show gi = _; exact v1, rfl, rfl, rfl, rfl, rfl, rfl, rfl⟩, fun _ => by show ta = _; exact v2, fun h => absurd h (by decide), fun h => absurd h (by decide), fun h => absurd h (by decide), Or.inl ⟨rfl, rfl⟩⟩
