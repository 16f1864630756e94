/-! NEW OBJECTS; Holding -/
def newA (M : xM) (t n : Nat) : xM := (M.1 + 1, M.2.1 + n, va_up M.2.2 M.1 (.inl (t, n, xA0 t)))
theorem xnewA_n {M : xM} {t n : Nat} (h : n ≤ 1000) : xnewA M t (nI n) = some (newA M t n) := by
  unfold xnewA
  have c1 : ((!decide (nI n < 0)) && Nat.ble (nI n).toNatClampNeg 1000000) = true := by
    rw [nI_clamp (by omega)]
    have : ¬ nI n < 0 := nI_pos (by omega)
    simp [this]
    omega
  rw [c1, nI_clamp (by omega)]
  rfl
theorem newA_at (M : xM) (t n : Nat) : (newA M t n).2.2 M.1 = .inl (t, n, xA0 t) := va_up_self _ _ _
theorem newA_ne {M : xM} {t n b : Nat} (h : b ≠ M.1) : (newA M t n).2.2 b = M.2.2 b := va_up_ne _ _ h
theorem newA_stp (P : Nat × Nat → Prop) (ow : xOw) (M : xM) (t n : Nat) (o : Nat × Nat) (ho : bnd ow M → o.1 < 10000 + (M.1 + 1)) : stp P 1 n ow M (va_up ow M.1 o) (newA M t n) := stp_new ho
theorem newO_at (M : xM) (c : Nat) : (xnewO M c).2.2 M.1 = .inr (c, xdef c) := va_up_self _ _ _
theorem newO_ne {M : xM} {c b : Nat} (h : b ≠ M.1) : (xnewO M c).2.2 b = M.2.2 b := va_up_ne _ _ h
theorem newO_stp (P : Nat × Nat → Prop) (ow : xOw) (M : xM) (c : Nat) (o : Nat × Nat) (ho : bnd ow M → o.1 < 10000 + (M.1 + 1)) : stp P 1 (xnf c) ow M (va_up ow M.1 o) (xnewO M c) := stp_new ho
theorem xdef9 : xdef 9 = [vi 0, vr none, vr none] := by decide
theorem xdef4 : xdef 4 = [vr none, vr none, vr none, vr none] := by decide
theorem xdef5 : xdef 5 = [vi 0, vr none] := by decide
theorem xdef2 : xdef 2 = [vi 0, vi 0, vi 0, vi 0, vr none, vr none, vi 0, vi 0, vi 0, vi 0, vi 0, vr none, vi 0, vr none] := by decide
theorem k_24 : Int32.ofInt 24 = nI 24 := rfl
theorem oR_new {T0 MI g a : Nat} {M : xM} {ow : xOw} (h : M.2.2 a = .inr (9, [vi 0, vr none, vr none])) (o : ow a = (g, 1)) (b : a < M.1) : ∃ M' ow', xZ T0 MI 53 0 [some (vr (some a))] [] M = some (none, M') ∧ oRows M' ow' g a [] ∧ stp (fun t => ¬ inP g 1 3 t) 2 120 ow M ow' M' := by
  have d1 : a ≠ M.1 := by omega
  have h1 : (newA M 0 60).2.2 a = .inr (9, [vi 0, vr none, vr none]) := by rw [newA_ne d1]; exact h
  generalize hM1 : xset (newA M 0 60) a (.inr (9, [vi 0, vr (some M.1), vr none])) = M1
  have m1 : M1.1 = M.1 + 1 := by rw [← hM1]; rfl
  have h2 : M1.2.2 a = .inr (9, [vi 0, vr (some M.1), vr none]) := by rw [← hM1]; exact xset_at _ _ _
  have h3 : M1.2.2 M.1 = .inl (0, 60, .inl (fun _ => 0)) := by rw [← hM1, xset_ne _ _ (Ne.symm d1)]; exact newA_at M 0 60
  have d2 : a ≠ M1.1 := by omega
  have h4 : (newA M1 1 60).2.2 a = .inr (9, [vi 0, vr (some M.1), vr none]) := by rw [newA_ne d2]; exact h2
  have ow1 : va_up (va_up ow M.1 (g, 2)) M1.1 (g, 3) a = (g, 1) := by rw [va_up_ne _ _ d2, va_up_ne _ _ d1]; exact o
  refine ⟨xset (newA M1 1 60) a (.inr (9, [vi 0, vr (some M.1), vr (some M1.1)])), va_up (va_up ow M.1 (g, 2)) M1.1 (g, 3), ?_, ⟨M.1, M1.1, (fun _ _ => 0, fun _ _ => 0), xset_at _ _ _, ?_, ?_, ⟨rfl, by simp, rfl, by simp [srt]⟩, ⟨ow1, ?_, va_up_self _ _ _⟩, ?_, ?_, ?_⟩, ?_⟩
  · have p1 : xput (newA M 0 60) a 9 1 (vr (some M.1)) = some M1 := (pV h1 1 rfl _).trans (congrArg some hM1)
    rw [bq_53_0, k_60, xnewA_n (by omega), Option.bind_some, p1, Option.bind_some, xnewA_n (by omega), Option.bind_some, pV h4 2 rfl, Option.bind_some]
    rfl
  · rw [xset_ne _ _ (Ne.symm d1), newA_ne (by omega)]; exact h3
  · rw [xset_ne _ _ (Ne.symm d2)]; exact newA_at M1 1 60
  · rw [va_up_ne _ _ (by omega), va_up_self]
  · show a < M1.1 + 1; omega
  · show M.1 < M1.1 + 1; omega
  · exact Nat.lt_succ_self _
  · have s1 := newA_stp (fun t => ¬ inP g 1 3 t) ow M 0 60 (g, 2) (fun hb => bnd_g hb b o)
    have s2 := stp_tr s1 (stp_set (P := fun t => ¬ inP g 1 3 t) (ow := va_up ow M.1 (g, 2)) (M := newA M 0 60) (a := a) (e := .inr (9, [vi 0, vr (some M.1), vr none])) (by rw [va_up_ne _ _ d1, o]; exact fun h => h (inP_i (by decide) (by decide))))
    rw [hM1] at s2
    have s3 := stp_tr s2 (newA_stp (fun t => ¬ inP g 1 3 t) (va_up ow M.1 (g, 2)) M1 1 60 (g, 3) (fun hb => bnd_g hb (show a < M1.1 by omega) (show va_up ow M.1 (g, 2) a = (g, 1) by rw [va_up_ne _ _ d1]; exact o)))
    have s4 := stp_tr s3 (stp_set (P := fun t => ¬ inP g 1 3 t) (ow := va_up (va_up ow M.1 (g, 2)) M1.1 (g, 3)) (M := newA M1 1 60) (a := a) (e := .inr (9, [vi 0, vr (some M.1), vr (some M1.1)])) (by rw [ow1]; exact fun h => h (inP_i (by decide) (by decide))))
    exact stp_w s4 (fun _ h => h) (by omega) (by omega)
theorem oS_new {T0 MI g a : Nat} {M : xM} {ow : xOw} (h : M.2.2 a = .inr (5, [vi 0, vr none])) (o : ow a = (g, 9)) (b : a < M.1) : ∃ M' ow', xZ T0 MI 43 0 [some (vr (some a))] [] M = some (none, M') ∧ oKeys M' ow' g a [] ∧ stp (fun t => ¬ inP g 9 10 t) 1 8 ow M ow' M' := by
  have d1 : a ≠ M.1 := by omega
  have h1 : (newA M 0 8).2.2 a = .inr (5, [vi 0, vr none]) := by rw [newA_ne d1]; exact h
  have ow1 : va_up ow M.1 (g, 10) a = (g, 9) := by rw [va_up_ne _ _ d1]; exact o
  refine ⟨xset (newA M 0 8) a (.inr (5, [vi 0, vr (some M.1)])), va_up ow M.1 (g, 10), ?_, ⟨M.1, 8, (fun _ _ => 0, fun _ _ => 0), xset_at _ _ _, ?_, ⟨rfl, by simp, rfl, by simp [srt]⟩, ⟨by simp, by omega, by omega⟩, ⟨ow1, va_up_self _ _ _⟩, ?_, ?_⟩, ?_⟩
  · rw [bq_43_0, k_8, xnewA_n (by omega), Option.bind_some, pV h1 1 rfl, Option.bind_some]
    rfl
  · rw [xset_ne _ _ (Ne.symm d1)]; exact newA_at M 0 8
  · show a < M.1 + 1; omega
  · exact Nat.lt_succ_self _
  · have s2 := stp_tr (newA_stp (fun t => ¬ inP g 9 10 t) ow M 0 8 (g, 10) (fun hb => bnd_g hb b o)) (stp_set (P := fun t => ¬ inP g 9 10 t) (ow := va_up ow M.1 (g, 10)) (M := newA M 0 8) (a := a) (e := .inr (5, [vi 0, vr (some M.1)])) (by rw [ow1]; exact fun h => h (inP_i (by decide) (by decide))))
    exact stp_w s2 (fun _ h => h) (by omega) (by omega)
theorem oK_new {T0 MI g a : Nat} {M : xM} {ow : xOw} (h : M.2.2 a = .inr (4, [vr none, vr none, vr none, vr none])) (o : ow a = (g, 4)) (b : a < M.1) : ∃ M' ow', xZ T0 MI 33 0 [some (vr (some a))] [] M = some (none, M') ∧ oKept M' ow' g a (fun _ => []) ∧ stp (fun t => ¬ inP g 4 8 t) 4 78 ow M ow' M' := by
  have d1 : a ≠ M.1 := by omega
  have h1 : (newA M 0 6).2.2 a = .inr (4, [vr none, vr none, vr none, vr none]) := by rw [newA_ne d1]; exact h
  generalize hM1 : xset (newA M 0 6) a (.inr (4, [vr (some M.1), vr none, vr none, vr none])) = M1
  have m1 : M1.1 = M.1 + 1 := by rw [← hM1]; rfl
  have a1 : M1.2.2 a = .inr (4, [vr (some M.1), vr none, vr none, vr none]) := by rw [← hM1]; exact xset_at _ _ _
  have b1 : M1.2.2 M.1 = .inl (0, 6, .inl (fun _ => 0)) := by rw [← hM1, xset_ne _ _ (Ne.symm d1)]; exact newA_at M 0 6
  have d2 : a ≠ M1.1 := by omega
  have h2 : (newA M1 0 24).2.2 a = .inr (4, [vr (some M.1), vr none, vr none, vr none]) := by rw [newA_ne d2]; exact a1
  generalize hM2 : xset (newA M1 0 24) a (.inr (4, [vr (some M.1), vr (some M1.1), vr none, vr none])) = M2
  have m2 : M2.1 = M.1 + 2 := by rw [← hM2]; show M1.1 + 1 = _; omega
  have a2 : M2.2.2 a = .inr (4, [vr (some M.1), vr (some M1.1), vr none, vr none]) := by rw [← hM2]; exact xset_at _ _ _
  have b2 : M2.2.2 M.1 = .inl (0, 6, .inl (fun _ => 0)) := by rw [← hM2, xset_ne _ _ (Ne.symm d1), newA_ne (by omega)]; exact b1
  have c2 : M2.2.2 M1.1 = .inl (0, 24, .inl (fun _ => 0)) := by rw [← hM2, xset_ne _ _ (Ne.symm d2)]; exact newA_at M1 0 24
  have d3 : a ≠ M2.1 := by omega
  have h3 : (newA M2 1 24).2.2 a = .inr (4, [vr (some M.1), vr (some M1.1), vr none, vr none]) := by rw [newA_ne d3]; exact a2
  generalize hM3 : xset (newA M2 1 24) a (.inr (4, [vr (some M.1), vr (some M1.1), vr (some M2.1), vr none])) = M3
  have m3 : M3.1 = M.1 + 3 := by rw [← hM3]; show M2.1 + 1 = _; omega
  have a3 : M3.2.2 a = .inr (4, [vr (some M.1), vr (some M1.1), vr (some M2.1), vr none]) := by rw [← hM3]; exact xset_at _ _ _
  have b3 : M3.2.2 M.1 = .inl (0, 6, .inl (fun _ => 0)) := by rw [← hM3, xset_ne _ _ (Ne.symm d1), newA_ne (by omega)]; exact b2
  have c3 : M3.2.2 M1.1 = .inl (0, 24, .inl (fun _ => 0)) := by rw [← hM3, xset_ne _ _ (Ne.symm d2), newA_ne (by omega)]; exact c2
  have e3 : M3.2.2 M2.1 = .inl (1, 24, .inr (.inl (fun _ => 0))) := by rw [← hM3, xset_ne _ _ (Ne.symm d3)]; exact newA_at M2 1 24
  have d4 : a ≠ M3.1 := by omega
  have h4 : (newA M3 0 24).2.2 a = .inr (4, [vr (some M.1), vr (some M1.1), vr (some M2.1), vr none]) := by rw [newA_ne d4]; exact a3
  generalize hw1 : va_up ow M.1 (g, 5) = w1
  have wa1 : w1 a = (g, 4) := by rw [← hw1, va_up_ne _ _ d1]; exact o
  have wb1 : w1 M.1 = (g, 5) := by rw [← hw1, va_up_self]
  generalize hw2 : va_up w1 M1.1 (g, 6) = w2
  have wa2 : w2 a = (g, 4) := by rw [← hw2, va_up_ne _ _ d2]; exact wa1
  have wb2 : w2 M.1 = (g, 5) := by rw [← hw2, va_up_ne _ _ (by omega)]; exact wb1
  have wc2 : w2 M1.1 = (g, 6) := by rw [← hw2, va_up_self]
  generalize hw3 : va_up w2 M2.1 (g, 7) = w3
  have wa3 : w3 a = (g, 4) := by rw [← hw3, va_up_ne _ _ d3]; exact wa2
  have wb3 : w3 M.1 = (g, 5) := by rw [← hw3, va_up_ne _ _ (by omega)]; exact wb2
  have wc3 : w3 M1.1 = (g, 6) := by rw [← hw3, va_up_ne _ _ (by omega)]; exact wc2
  have wd3 : w3 M2.1 = (g, 7) := by rw [← hw3, va_up_self]
  have nP : ∀ w : xOw, w a = (g, 4) → ¬ (fun t => ¬ inP g 4 8 t) (w a) := fun w hw => by
    show ¬ ¬ inP g 4 8 (w a)
    rw [hw]
    exact fun h => h (inP_i (by decide) (by decide))
  have s1 := stp_tr (newA_stp (fun t => ¬ inP g 4 8 t) ow M 0 6 (g, 5) (fun hb => bnd_g hb b o)) (stp_set (P := fun t => ¬ inP g 4 8 t) (ow := va_up ow M.1 (g, 5)) (M := newA M 0 6) (a := a) (e := .inr (4, [vr (some M.1), vr none, vr none, vr none])) (by rw [hw1]; exact nP w1 wa1))
  rw [hM1, hw1] at s1
  have s2 := stp_tr s1 (stp_tr (newA_stp (fun t => ¬ inP g 4 8 t) w1 M1 0 24 (g, 6) (fun hb => bnd_g hb (show a < M1.1 by omega) wa1)) (stp_set (P := fun t => ¬ inP g 4 8 t) (ow := va_up w1 M1.1 (g, 6)) (M := newA M1 0 24) (a := a) (e := .inr (4, [vr (some M.1), vr (some M1.1), vr none, vr none])) (by rw [hw2]; exact nP w2 wa2)))
  rw [hM2, hw2] at s2
  have s3 := stp_tr s2 (stp_tr (newA_stp (fun t => ¬ inP g 4 8 t) w2 M2 1 24 (g, 7) (fun hb => bnd_g hb (show a < M2.1 by omega) wa2)) (stp_set (P := fun t => ¬ inP g 4 8 t) (ow := va_up w2 M2.1 (g, 7)) (M := newA M2 1 24) (a := a) (e := .inr (4, [vr (some M.1), vr (some M1.1), vr (some M2.1), vr none])) (by rw [hw3]; exact nP w3 wa3)))
  rw [hM3, hw3] at s3
  have wa4 : va_up w3 M3.1 (g, 8) a = (g, 4) := by rw [va_up_ne _ _ d4]; exact wa3
  have s4 := stp_tr s3 (stp_tr (newA_stp (fun t => ¬ inP g 4 8 t) w3 M3 0 24 (g, 8) (fun hb => bnd_g hb (show a < M3.1 by omega) wa3)) (stp_set (P := fun t => ¬ inP g 4 8 t) (ow := va_up w3 M3.1 (g, 8)) (M := newA M3 0 24) (a := a) (e := .inr (4, [vr (some M.1), vr (some M1.1), vr (some M2.1), vr (some M3.1)])) (nP _ wa4)))
  refine ⟨_, _, ?_, ⟨M.1, M1.1, M2.1, M3.1, (fun _ _ => 0, fun _ _ => 0), xset_at _ _ _, ?_, ?_, ?_, ?_, fun i _ => ⟨rfl, by simp, rfl, by simp [srt]⟩, ⟨wa4, ?_, ?_, ?_, va_up_self _ _ _⟩, ?_, ?_, ?_, ?_, ?_⟩, stp_w s4 (fun _ h => h) (by omega) (by omega)⟩
  · have p1 : xput (newA M 0 6) a 4 0 (vr (some M.1)) = some M1 := (pV h1 0 rfl _).trans (congrArg some hM1)
    have p2 : xput (newA M1 0 24) a 4 1 (vr (some M1.1)) = some M2 := (pV h2 1 rfl _).trans (congrArg some hM2)
    have p3 : xput (newA M2 1 24) a 4 2 (vr (some M2.1)) = some M3 := (pV h3 2 rfl _).trans (congrArg some hM3)
    rw [bq_33_0, k_6, k_24, xnewA_n (by omega), Option.bind_some, p1, Option.bind_some, xnewA_n (by omega), Option.bind_some, p2, Option.bind_some, xnewA_n (by omega), Option.bind_some, p3, Option.bind_some, xnewA_n (by omega), Option.bind_some, pV h4 3 rfl, Option.bind_some]
    rfl
  · rw [xset_ne _ _ (Ne.symm d1), newA_ne (by omega)]; exact b3
  · rw [xset_ne _ _ (Ne.symm d2), newA_ne (by omega)]; exact c3
  · rw [xset_ne _ _ (Ne.symm d3), newA_ne (by omega)]; exact e3
  · rw [xset_ne _ _ (Ne.symm d4)]; exact newA_at M3 0 24
  · rw [va_up_ne _ _ (by omega)]; exact wb3
  · rw [va_up_ne _ _ (by omega)]; exact wc3
  · rw [va_up_ne _ _ (by omega)]; exact wd3
  · show a < M3.1 + 1; omega
  · show M.1 < M3.1 + 1; omega
  · show M1.1 < M3.1 + 1; omega
  · show M2.1 < M3.1 + 1; omega
  · exact Nat.lt_succ_self _
/-! Holding -/
def hl (h : Nat → Int32) (ra ka : Nat) (sn : Option Nat) (sa : Nat) : List xV := [vi (h 0), vi (h 1), vi (h 2), vi (h 3), vr (some ra), vr (some ka), vi (h 6), vi (h 7), vi (h 8), vi (h 9), vi (h 10), vr sn, vi (h 12), vr (some sa)]
def oHold (M : xM) (ow : xOw) (g a : Nat) (h : Nat → Int32) (sn : Option Nat) (R : RW) (K : Nat → KW) (S : List Int32) : Prop := ∃ ra ka sa, M.2.2 a = .inr (2, hl h ra ka sn sa) ∧ ow a = (g, 0) ∧ a < M.1 ∧ oRows M ow g ra R ∧ oKept M ow g ka K ∧ oKeys M ow g sa S
theorem oHold_f {P : Nat × Nat → Prop} {x y : Nat} {ow ow' : xOw} {M M' : xM} {g a : Nat} {h : Nat → Int32} {sn : Option Nat} {R : RW} {K : Nat → KW} {S : List Int32} (H : oHold M ow g a h sn R K S) (hs : stp P x y ow M ow' M') (hP : ∀ t : Nat × Nat, t.1 = g → P t) : oHold M' ow' g a h sn R K S := by
  obtain ⟨ra, ka, sa, h1, o, b, r, k, s⟩ := H
  refine ⟨ra, ka, sa, ?_, ?_, ?_, oRows_f r hs (fun t ht => hP t ht.1), oKept_f k hs (fun t ht => hP t ht.1), oKeys_f s hs (fun t ht => hP t ht.1)⟩
  · rw [(hs.2.2.2 a b).2 (hP _ (by rw [o]))]; exact h1
  · rw [(hs.2.2.2 a b).1]; exact o
  · have := hs.1; omega
/-- a field of the Holding itself is written -/
theorem oH_w {ow : xOw} {M : xM} {g a : Nat} {h h' : Nat → Int32} {sn sn' : Option Nat} {R : RW} {K : Nat → KW} {S : List Int32} {k : Nat} {v : xV} (H : oHold M ow g a h sn R K S) (hk : k < 14) (hv : ∀ ra ka sa, (hl h ra ka sn sa).set k v = hl h' ra ka sn' sa) : ∃ M', xput M a 2 k v = some M' ∧ oHold M' ow g a h' sn' R K S ∧ stp (fun t => t ≠ (g, 0)) 0 0 ow M ow M' := by
  obtain ⟨ra, ka, sa, h1, o, b, r, kk, s⟩ := H
  have hs : stp (fun t => t ≠ (g, 0)) 0 0 ow M ow (xset M a (.inr (2, hl h' ra ka sn' sa))) := stp_set (by rw [o]; exact fun h => h rfl)
  refine ⟨_, (pV h1 k (by show Nat.blt k 14 = true; simp [Nat.blt]; omega) v).trans (by rw [hv]), ⟨ra, ka, sa, xset_at _ _ _, o, b, oRows_f r hs (fun t ht e => ?_), oKept_f kk hs (fun t ht e => ?_), oKeys_f s hs (fun t ht e => ?_)⟩, hs⟩
  · rw [e] at ht; exact absurd ht.2.1 (by simp)
  · rw [e] at ht; exact absurd ht.2.1 (by simp)
  · rw [e] at ht; exact absurd ht.2.1 (by simp)
theorem oH_r {ow : xOw} {M : xM} {g a : Nat} {h : Nat → Int32} {sn : Option Nat} {R : RW} {K : Nat → KW} {S : List Int32} (H : oHold M ow g a h sn R K S) : ∃ ra ka sa, (xgetI M a 2 0 = some (h 0) ∧ xgetI M a 2 1 = some (h 1) ∧ xgetI M a 2 2 = some (h 2) ∧ xgetI M a 2 3 = some (h 3) ∧ xgetI M a 2 6 = some (h 6) ∧ xgetI M a 2 7 = some (h 7) ∧ xgetI M a 2 8 = some (h 8) ∧ xgetI M a 2 9 = some (h 9) ∧ xgetI M a 2 10 = some (h 10) ∧ xgetI M a 2 12 = some (h 12)) ∧ (xgetR M a 2 4 = some (some ra) ∧ xgetR M a 2 5 = some (some ka) ∧ xgetR M a 2 11 = some sn ∧ xgetR M a 2 13 = some (some sa)) ∧ xcls M a 2 = true ∧ oRows M ow g ra R ∧ oKept M ow g ka K ∧ oKeys M ow g sa S := by
  obtain ⟨ra, ka, sa, h1, o, b, r, k, s⟩ := H
  exact ⟨ra, ka, sa, ⟨gI h1 0 rfl, gI h1 1 rfl, gI h1 2 rfl, gI h1 3 rfl, gI h1 6 rfl, gI h1 7 rfl, gI h1 8 rfl, gI h1 9 rfl, gI h1 10 rfl, gI h1 12 rfl⟩, ⟨gR h1 4 rfl, gR h1 5 rfl, gR h1 11 rfl, gR h1 13 rfl⟩, gC h1, r, k, s⟩
theorem oH_b {ow : xOw} {M : xM} {g a : Nat} {h : Nat → Int32} {sn : Option Nat} {R : RW} {K : Nat → KW} {S : List Int32} (H : oHold M ow g a h sn R K S) : ow a = (g, 0) ∧ a < M.1 ∧ isObj M a := by
  obtain ⟨ra, ka, sa, h1, o, b, -⟩ := H
  exact ⟨o, b, 2, _, h1, by decide⟩
