/-! what fl2 leaves alone -/
def nrm (q : xrho) : xrho := (fun k => bif nf1 k then fun _ => 0 else q.1 k, fun k => bif nf2 k then fun _ => 0 else q.2 k)
theorem nrm_e {q q' : xrho} (h : fl2 q q') : nrm q' = nrm q := by
  unfold nrm
  refine Prod.ext (funext fun k => ?_) (funext fun k => ?_)
  · show (bif nf1 k then _ else _) = (bif nf1 k then _ else _)
    cases e : nf1 k
    · exact h.1 k e
    · rfl
  · show (bif nf2 k then _ else _) = (bif nf2 k then _ else _)
    cases e : nf2 k
    · exact h.2 k e
    · rfl
theorem Rep_nrm {T0 X n : Nat} {ad : Nat → Nat} {fh fp : Nat → Option Nat} {cl ll dl : List Nat} {aa : Nat → Nat} {pk : Nat → Option Nat} {q : xrho} {L : xLs} {M : xM} {ow : xOw} : Rep T0 X n ad fh fp cl ll dl aa pk (nrm q) L M ow = Rep T0 X n ad fh fp cl ll dl aa pk q L M ow := rfl
theorem NN_nrm {q : xrho} {L : xLs} {n : Nat} : NN (nrm q) L n = NN q L n := rfl
theorem RepE_fl2 {T0 X n : Nat} {q q' : xrho} {L : xLs} {M : xM} {ow : xOw} (h : fl2 q q') (H : RepE T0 X n q L M ow) : RepE T0 X n q' L M ow := by
  obtain ⟨ad, fh, fp, cl, ll, dl, aa, pk, H⟩ := H
  refine ⟨ad, fh, fp, cl, ll, dl, aa, pk, ?_⟩
  rw [← Rep_nrm, nrm_e h, Rep_nrm]
  exact H
theorem NN_fl2 {q q' : xrho} {L : xLs} {n : Nat} (h : fl2 q q') (H : NN q L n) : NN q' L n := by
  rw [← NN_nrm, nrm_e h, NN_nrm]
  exact H
theorem nf1_o {k : Nat} (h : k ≠ 19 ∧ k ≠ 20 ∧ k ≠ 25 ∧ k ≠ 26 ∧ k ≠ 34 ∧ k ≠ 35 ∧ k ≠ 36 ∧ k ≠ 78 ∧ k ≠ 79 ∧ k ≠ 80) : nf1 k = false := by
  have e : ∀ a b : Nat, a ≠ b → Nat.beq a b = false := fun a b h => by
    cases c : Nat.beq a b
    · rfl
    · exact absurd (Nat.eq_of_beq_eq_true c) h
  unfold nf1
  rw [e _ _ h.1, e _ _ h.2.1, e _ _ h.2.2.1, e _ _ h.2.2.2.1, e _ _ h.2.2.2.2.1, e _ _ h.2.2.2.2.2.1, e _ _ h.2.2.2.2.2.2.1, e _ _ h.2.2.2.2.2.2.2.1, e _ _ h.2.2.2.2.2.2.2.2.1, e _ _ h.2.2.2.2.2.2.2.2.2]
  rfl
theorem PIv_fl2 {q q' : xrho} {B : Int} (n12 : nu q 12 0 ≤ 40) (h : fl2 q q') (I : PIv q B) : PIv q' B := by
  have e : ∀ k i, k ≠ 19 ∧ k ≠ 20 ∧ k ≠ 25 ∧ k ≠ 26 ∧ k ≠ 34 ∧ k ≠ 35 ∧ k ≠ 36 ∧ k ≠ 78 ∧ k ≠ 79 ∧ k ≠ 80 → q'.1 k i = q.1 k i := fun k i hk => by rw [h.1 k (nf1_o hk)]
  exact PIv_0 I (e 12 0 (by decide)) (fun s hs => ⟨fun k _ _ _ => e k _ (by omega), fun j _ => e 9 _ (by decide), fun k i hk => by unfold pkf at hk; exact e k _ (by omega)⟩) ⟨fun k i _ _ _ _ => e k i (by omega), e 82 0 (by decide)⟩ n12
theorem PN_fl2 {q q' : xrho} {L : xLs} {n : Nat} {B : Int} (h : fl2 q q') (P : PN q L n B) : PN q' L n B := ⟨PIv_fl2 P.2.1.2.2.2.1.2 h P.1, NN_fl2 h P.2⟩
