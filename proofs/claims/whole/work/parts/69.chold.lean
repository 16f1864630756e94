/-! Holding, with its parts' addresses -/
def oHA (M : xM) (ow : xOw) (g a ra ka sa : Nat) (h : Nat → Int32) (sn : Option Nat) (R : RW) (K : Nat → KW) (S : List Int32) : Prop := M.2.2 a = .inr (2, hl h ra ka sn sa) ∧ ow a = (g, 0) ∧ a < M.1 ∧ oRows M ow g ra R ∧ oKept M ow g ka K ∧ oKeys M ow g sa S
abbrev off (g : Nat) (t : Nat × Nat) : Prop := t.1 ≠ g
theorem off_r {g x y : Nat} {ow ow' : xOw} {M M' : xM} {lo hi : Nat} (h : stp (fun t => ¬ inP g lo hi t) x y ow M ow' M') : stp (off g) x y ow M ow' M' := stp_w h (fun t ht e => ht e.1) (Nat.le_refl _) (Nat.le_refl _)
theorem off_0 {g x y : Nat} {ow ow' : xOw} {M M' : xM} (h : stp (fun t => t ≠ (g, 0)) x y ow M ow' M') : stp (off g) x y ow M ow' M' := stp_w h (fun t ht e => ht (by rw [e])) (Nat.le_refl _) (Nat.le_refl _)
theorem hA_f {P : Nat × Nat → Prop} {x y : Nat} {ow ow' : xOw} {M M' : xM} {g a ra ka sa : Nat} {h : Nat → Int32} {sn : Option Nat} {R : RW} {K : Nat → KW} {S : List Int32} (H : oHA M ow g a ra ka sa h sn R K S) (hs : stp P x y ow M ow' M') (hP : ∀ t : Nat × Nat, t.1 = g → P t) : oHA M' ow' g a ra ka sa h sn R K S := by
  obtain ⟨h1, o, b, r, k, s⟩ := H
  refine ⟨?_, ?_, ?_, oRows_f r hs (fun t ht => hP t ht.1), oKept_f k hs (fun t ht => hP t ht.1), oKeys_f s hs (fun t ht => hP t ht.1)⟩
  · rw [(hs.2.2.2 a b).2 (hP _ (by rw [o]))]; exact h1
  · rw [(hs.2.2.2 a b).1]; exact o
  · have := hs.1; omega
theorem hA_rows {x y : Nat} {ow ow' : xOw} {M M' : xM} {g a ra ka sa : Nat} {h : Nat → Int32} {sn : Option Nat} {R R' : RW} {K : Nat → KW} {S : List Int32} (H : oHA M ow g a ra ka sa h sn R K S) (hr : oRows M' ow' g ra R') (hs : stp (fun t => ¬ inP g 1 3 t) x y ow M ow' M') : oHA M' ow' g a ra ka sa h sn R' K S := by
  obtain ⟨h1, o, b, r, k, s⟩ := H
  refine ⟨?_, ?_, ?_, hr, oKept_f k hs (fun t ht e => ?_), oKeys_f s hs (fun t ht e => ?_)⟩
  · rw [(hs.2.2.2 a b).2 (by rw [o]; exact fun e => absurd e.2.1 (by simp))]; exact h1
  · rw [(hs.2.2.2 a b).1]; exact o
  · have := hs.1; omega
  · have := ht.2.1; have := e.2.2; omega
  · have := ht.2.1; have := e.2.2; omega
theorem hA_kept {x y : Nat} {ow ow' : xOw} {M M' : xM} {g a ra ka sa : Nat} {h : Nat → Int32} {sn : Option Nat} {R : RW} {K K' : Nat → KW} {S : List Int32} (H : oHA M ow g a ra ka sa h sn R K S) (hk : oKept M' ow' g ka K') (hs : stp (fun t => ¬ inP g 4 8 t) x y ow M ow' M') : oHA M' ow' g a ra ka sa h sn R K' S := by
  obtain ⟨h1, o, b, r, k, s⟩ := H
  refine ⟨?_, ?_, ?_, oRows_f r hs (fun t ht e => ?_), hk, oKeys_f s hs (fun t ht e => ?_)⟩
  · rw [(hs.2.2.2 a b).2 (by rw [o]; exact fun e => absurd e.2.1 (by simp))]; exact h1
  · rw [(hs.2.2.2 a b).1]; exact o
  · have := hs.1; omega
  · have := ht.2.2; have := e.2.1; omega
  · have := ht.2.1; have := e.2.2; omega
theorem hA_keys {x y : Nat} {ow ow' : xOw} {M M' : xM} {g a ra ka sa : Nat} {h : Nat → Int32} {sn : Option Nat} {R : RW} {K : Nat → KW} {S S' : List Int32} (H : oHA M ow g a ra ka sa h sn R K S) (hk : oKeys M' ow' g sa S') (hs : stp (fun t => ¬ inP g 9 10 t) x y ow M ow' M') : oHA M' ow' g a ra ka sa h sn R K S' := by
  obtain ⟨h1, o, b, r, k, s⟩ := H
  refine ⟨?_, ?_, ?_, oRows_f r hs (fun t ht e => ?_), oKept_f k hs (fun t ht e => ?_), hk⟩
  · rw [(hs.2.2.2 a b).2 (by rw [o]; exact fun e => absurd e.2.1 (by simp))]; exact h1
  · rw [(hs.2.2.2 a b).1]; exact o
  · have := hs.1; omega
  · have := ht.2.2; have := e.2.1; omega
  · have := ht.2.2; have := e.2.1; omega
theorem hA_w {ow : xOw} {M : xM} {g a ra ka sa : Nat} {h : Nat → Int32} {sn : Option Nat} {R : RW} {K : Nat → KW} {S : List Int32} (H : oHA M ow g a ra ka sa h sn R K S) (k : Nat) (v : xV) (h' : Nat → Int32) (sn' : Option Nat) (hk : k < 14) (hv : (hl h ra ka sn sa).set k v = hl h' ra ka sn' sa) : ∃ M', xput M a 2 k v = some M' ∧ oHA M' ow g a ra ka sa h' sn' R K S ∧ stp (fun t => t ≠ (g, 0)) 0 0 ow M ow M' := by
  obtain ⟨h1, o, b, r, kk, s⟩ := H
  have hs : stp (fun t => t ≠ (g, 0)) 0 0 ow M ow (xset M a (.inr (2, hl h' ra ka sn' sa))) := stp_set (by rw [o]; exact fun h => h rfl)
  refine ⟨_, (pV h1 k (by show Nat.blt k 14 = true; simp [Nat.blt]; omega) v).trans (by rw [hv]), ⟨xset_at _ _ _, o, b, oRows_f r hs (fun t ht e => ?_), oKept_f kk hs (fun t ht e => ?_), oKeys_f s hs (fun t ht e => ?_)⟩, hs⟩
  · rw [e] at ht; exact absurd ht.2.1 (by simp)
  · rw [e] at ht; exact absurd ht.2.1 (by simp)
  · rw [e] at ht; exact absurd ht.2.1 (by simp)
/-- a whole number in a field -/
theorem hA_i {ow : xOw} {M : xM} {g a ra ka sa : Nat} {h : Nat → Int32} {sn : Option Nat} {R : RW} {K : Nat → KW} {S : List Int32} (H : oHA M ow g a ra ka sa h sn R K S) (k : Nat) (x : Int32) (hk : k = 0 ∨ k = 1 ∨ k = 2 ∨ k = 3 ∨ k = 6 ∨ k = 7 ∨ k = 8 ∨ k = 9 ∨ k = 10 ∨ k = 12) : ∃ M', xput M a 2 k (vi x) = some M' ∧ oHA M' ow g a ra ka sa (upd h k x) sn R K S ∧ stp (fun t => t ≠ (g, 0)) 0 0 ow M ow M' := hA_w H k (vi x) (upd h k x) sn (by omega) (by
  rcases hk with rfl | rfl | rfl | rfl | rfl | rfl | rfl | rfl | rfl | rfl <;> rfl)
theorem hA_sn {ow : xOw} {M : xM} {g a ra ka sa : Nat} {h : Nat → Int32} {sn : Option Nat} {R : RW} {K : Nat → KW} {S : List Int32} (H : oHA M ow g a ra ka sa h sn R K S) (x : Option Nat) : ∃ M', xput M a 2 11 (vr x) = some M' ∧ oHA M' ow g a ra ka sa h x R K S ∧ stp (fun t => t ≠ (g, 0)) 0 0 ow M ow M' := hA_w H 11 (vr x) h x (by omega) rfl
theorem hA_g {ow : xOw} {M : xM} {g a ra ka sa : Nat} {h : Nat → Int32} {sn : Option Nat} {R : RW} {K : Nat → KW} {S : List Int32} (H : oHA M ow g a ra ka sa h sn R K S) (k : Nat) (hk : k = 0 ∨ k = 1 ∨ k = 2 ∨ k = 3 ∨ k = 6 ∨ k = 7 ∨ k = 8 ∨ k = 9 ∨ k = 10 ∨ k = 12) : xgetI M a 2 k = some (h k) := gI H.1 k (by
  rcases hk with rfl | rfl | rfl | rfl | rfl | rfl | rfl | rfl | rfl | rfl <;> rfl)
theorem hA_4 {ow : xOw} {M : xM} {g a ra ka sa : Nat} {h : Nat → Int32} {sn : Option Nat} {R : RW} {K : Nat → KW} {S : List Int32} (H : oHA M ow g a ra ka sa h sn R K S) : xgetR M a 2 4 = some (some ra) := gR H.1 4 rfl
theorem hA_5 {ow : xOw} {M : xM} {g a ra ka sa : Nat} {h : Nat → Int32} {sn : Option Nat} {R : RW} {K : Nat → KW} {S : List Int32} (H : oHA M ow g a ra ka sa h sn R K S) : xgetR M a 2 5 = some (some ka) := gR H.1 5 rfl
theorem hA_11 {ow : xOw} {M : xM} {g a ra ka sa : Nat} {h : Nat → Int32} {sn : Option Nat} {R : RW} {K : Nat → KW} {S : List Int32} (H : oHA M ow g a ra ka sa h sn R K S) : xgetR M a 2 11 = some sn := gR H.1 11 rfl
theorem hA_13 {ow : xOw} {M : xM} {g a ra ka sa : Nat} {h : Nat → Int32} {sn : Option Nat} {R : RW} {K : Nat → KW} {S : List Int32} (H : oHA M ow g a ra ka sa h sn R K S) : xgetR M a 2 13 = some (some sa) := gR H.1 13 rfl
theorem hA_c {ow : xOw} {M : xM} {g a ra ka sa : Nat} {h : Nat → Int32} {sn : Option Nat} {R : RW} {K : Nat → KW} {S : List Int32} (H : oHA M ow g a ra ka sa h sn R K S) : xcls M a 2 = true := gC H.1
theorem oR_cls {M : xM} {ow : xOw} {g a : Nat} {l : RW} (h : oRows M ow g a l) : xcls M a 9 = true := by
  obtain ⟨ka, va, q, h1, -⟩ := h
  exact gC h1
theorem oK_cls {M : xM} {ow : xOw} {g a : Nat} {K : Nat → KW} (h : oKept M ow g a K) : xcls M a 4 = true := by
  obtain ⟨s, c, v, w, q, h1, -⟩ := h
  exact gC h1
theorem oS_cls {M : xM} {ow : xOw} {g a : Nat} {s : List Int32} (h : oKeys M ow g a s) : xcls M a 5 = true := by
  obtain ⟨ka, N, q, h1, -⟩ := h
  exact gC h1
theorem oR_sz {M : xM} {ow : xOw} {g a : Nat} {l : RW} (h : oRows M ow g a l) : xgetI M a 9 0 = some (nI l.length) := by
  obtain ⟨ka, va, q, h1, h2, h3, h4, -⟩ := h
  rw [← h4.1]
  exact gI h1 0 rfl
/-! endGiving, beNothing, beWhole -/
theorem c_endG {T0 MI : Nat} {ow : xOw} {M : xM} {g a ra ka sa : Nat} {h : Nat → Int32} {sn : Option Nat} {R : RW} {K : Nat → KW} {S : List Int32} (H : oHA M ow g a ra ka sa h sn R K S) : ∃ M', xZ T0 MI 15 0 [some (vr (some a))] [] M = some (none, M') ∧ oHA M' ow g a ra ka sa (upd h 12 (nI 0)) none R K [] ∧ stp (off g) 0 0 ow M ow M' := by
  obtain ⟨M1, e1, H1, s1⟩ := hA_sn H none
  obtain ⟨M2, e2, H2, s2⟩ := hA_i H1 12 (nI 0) (by simp)
  obtain ⟨M3, e3, H3, s3⟩ := oS_zero H2.2.2.2.2.2
  refine ⟨M3, ?_, hA_keys H2 H3 s3, stp_tr (stp_tr (off_0 s1) (off_0 s2)) (off_r s3)⟩
  rw [bq_15_0, k_0, e1, Option.bind_some, xbn0, cond_true, e2, Option.bind_some, hA_13 H2, Option.bind_some, Option.bind_some, e3, Option.bind_some]
theorem c_beN {T0 MI : Nat} {ow : xOw} {M : xM} {g a ra ka sa : Nat} {h : Nat → Int32} {sn : Option Nat} {R : RW} {K : Nat → KW} {S : List Int32} (H : oHA M ow g a ra ka sa h sn R K S) : ∃ M', xZ T0 MI 13 0 [some (vr (some a))] [] M = some (none, M') ∧ oHA M' ow g a ra ka sa (upd (upd h 0 (nI 0)) 12 (nI 0)) none [] (fun _ => []) [] ∧ stp (off g) 0 0 ow M ow M' := by
  obtain ⟨M1, e1, H1, s1⟩ := hA_i H 0 (nI 0) (by simp)
  obtain ⟨M2, e2, r2, s2⟩ := oR_cut (n := 0) H1.2.2.2.1 (Nat.zero_le _)
  have H2 := hA_rows H1 r2 s2
  obtain ⟨M3, e3, k3, s3⟩ := oK_forget (T0 := T0) (MI := MI) H2.2.2.2.2.1
  have H3 := hA_kept H2 k3 s3
  obtain ⟨M4, e4, H4, s4⟩ := c_endG (T0 := T0) (MI := MI) H3
  refine ⟨M4, ?_, H4, stp_tr (stp_tr (stp_tr (off_0 s1) (off_r s2)) (off_r s3)) s4⟩
  rw [bq_13_0, k_0, e1, Option.bind_some, hA_4 H1, Option.bind_some, Option.bind_some, e2, Option.bind_some, hA_5 H2, Option.bind_some, Option.bind_some, oK_cls H2.2.2.2.2.1, cond_true, e3]
  simp (decide := true) (disch := omega) only [Option.bind_some, xasI, xasL, xasR, xin_t, cond_true, cond_false, nI_clamp, k_0, k_1, k_2, k_3, k_4, k_5, k_6, k_40, k_60, k_500, k_10000, pk_mul, nI_add, nI_e0, nI_ee, nI_leI, nI_ltI, xbool0, xbool1, xbn0, xbn1, xb_0, xb_1, reduceIte, one0, Option.isNone_none, ne_eq, not_true_eq_false, not_false_eq_true, if_true, if_false, ite_not, Bool.true_and, Bool.and_true]
  rw [bq_13_20, hA_c H3, cond_true, e4]
  simp (decide := true) (disch := omega) only [bq_13_24, Option.bind_some, xasI, xasL, xasR, xin_t, cond_true, cond_false, nI_clamp, k_0, k_1, k_2, k_3, k_4, k_5, k_6, k_40, k_60, k_500, k_10000, pk_mul, nI_add, nI_e0, nI_ee, nI_leI, nI_ltI, xbool0, xbool1, xbn0, xbn1, xb_0, xb_1, reduceIte, one0, Option.isNone_none, ne_eq, not_true_eq_false, not_false_eq_true, if_true, if_false, ite_not, Bool.true_and, Bool.and_true]
theorem c_beW {T0 MI : Nat} {ow : xOw} {M : xM} {g a ra ka sa : Nat} {h : Nat → Int32} {sn : Option Nat} {R : RW} {K : Nat → KW} {S : List Int32} {x y z : Int32} (H : oHA M ow g a ra ka sa h sn R K S) : ∃ M', xZ T0 MI 14 0 [some (vr (some a)), some (vi x), some (vi y), some (vi z)] [] M = some (none, M') ∧ oHA M' ow g a ra ka sa (upd (upd (upd (upd (upd h 0 (nI 1)) 1 x) 2 y) 3 z) 12 (nI 0)) none R K [] ∧ stp (off g) 0 0 ow M ow M' := by
  obtain ⟨M1, e1, H1, s1⟩ := hA_i H 0 (nI 1) (by simp)
  obtain ⟨M2, e2, H2, s2⟩ := hA_i H1 1 x (by simp)
  obtain ⟨M3, e3, H3, s3⟩ := hA_i H2 2 y (by simp)
  obtain ⟨M4, e4, H4, s4⟩ := hA_i H3 3 z (by simp)
  obtain ⟨M5, e5, H5, s5⟩ := c_endG (T0 := T0) (MI := MI) H4
  refine ⟨M5, ?_, H5, stp_tr (stp_tr (stp_tr (stp_tr (off_0 s1) (off_0 s2)) (off_0 s3)) (off_0 s4)) s5⟩
  rw [bq_14_0, k_1, e1, Option.bind_some, e2, Option.bind_some, e3, Option.bind_some, e4, Option.bind_some, hA_c H4, cond_true, e5]
  simp (decide := true) (disch := omega) only [bq_14_24, Option.bind_some, xasI, xasL, xasR, xin_t, cond_true, cond_false, nI_clamp, k_0, k_1, k_2, k_3, k_4, k_5, k_6, k_40, k_60, k_500, k_10000, pk_mul, nI_add, nI_e0, nI_ee, nI_leI, nI_ltI, xbool0, xbool1, xbn0, xbn1, xb_0, xb_1, reduceIte, one0, Option.isNone_none, ne_eq, not_true_eq_false, not_false_eq_true, if_true, if_false, ite_not, Bool.true_and, Bool.and_true]
/-! what it is -/
theorem c_isServing {T0 MI : Nat} {M : xM} {a : Nat} {x : Int32} (e : xgetI M a 2 0 = some x) : xZ T0 MI 8 0 [some (vr (some a))] [] M = some (some (vi (tI (x = nI 1 ∨ x = nI 2))), M) := by
  rw [bq_8_0, e, Option.bind_some, k_1]
  by_cases a1 : x = nI 1
  · rw [if_pos a1, bq_8_16, bq_8_21, tI_t (Or.inl a1)]; rfl
  · rw [if_neg a1, bq_8_8, e, Option.bind_some, k_2]
    by_cases a2 : x = nI 2
    · rw [if_pos a2, bq_8_16, bq_8_21, tI_t (Or.inr a2)]; rfl
    · rw [if_neg a2, bq_8_20, bq_8_21, tI_f (fun h => h.elim a1 a2)]; rfl
theorem c_isGiven {T0 MI : Nat} {M : xM} {a : Nat} {x : Int32} (e : xgetI M a 2 0 = some x) : xZ T0 MI 9 0 [some (vr (some a))] [] M = some (some (vi (tI (x = nI 2 ∨ x = nI 3))), M) := by
  rw [bq_9_0, e, Option.bind_some, k_2]
  by_cases a1 : x = nI 2
  · rw [if_pos a1, bq_9_16, bq_9_21, tI_t (Or.inl a1)]; rfl
  · rw [if_neg a1, bq_9_8, e, Option.bind_some, k_3]
    by_cases a2 : x = nI 3
    · rw [if_pos a2, bq_9_16, bq_9_21, tI_t (Or.inr a2)]; rfl
    · rw [if_neg a2, bq_9_20, bq_9_21, tI_f (fun h => h.elim a1 a2)]; rfl
theorem c_isHome {T0 MI : Nat} {M : xM} {a : Nat} {x : Int32} (e : xgetI M a 2 0 = some x) (hc : xcls M a 2 = true) : xZ T0 MI 10 0 [some (vr (some a))] [] M = some (some (vi (tI (x = nI 1 ∨ x = nI 2 ∨ x = nI 3))), M) := by
  rw [bq_10_0, e, Option.bind_some, k_1]
  by_cases a1 : x = nI 1
  · rw [if_pos a1, bq_10_15, bq_10_20, tI_t (Or.inl a1)]; rfl
  · rw [if_neg a1, bq_10_8, hc, cond_true, c_isGiven e]
    by_cases a2 : x = nI 2 ∨ x = nI 3
    · rw [tI_t a2, tI_t (Or.inr a2)]
      simp (decide := true) (disch := omega) only [bq_10_12, bq_10_15, bq_10_20, Option.bind_some, xasI, xasL, xasR, xin_t, cond_true, cond_false, nI_clamp, k_0, k_1, k_2, k_3, k_4, k_5, k_6, k_40, k_60, k_500, k_10000, pk_mul, nI_add, nI_e0, nI_ee, nI_leI, nI_ltI, xbool0, xbool1, xbn0, xbn1, xb_0, xb_1, reduceIte, one0, Option.isNone_none, ne_eq, not_true_eq_false, not_false_eq_true, if_true, if_false, ite_not, Bool.true_and, Bool.and_true]
      rfl
    · rw [tI_f a2, tI_f (fun h => h.elim a1 a2)]
      simp (decide := true) (disch := omega) only [bq_10_12, bq_10_19, bq_10_20, Option.bind_some, xasI, xasL, xasR, xin_t, cond_true, cond_false, nI_clamp, k_0, k_1, k_2, k_3, k_4, k_5, k_6, k_40, k_60, k_500, k_10000, pk_mul, nI_add, nI_e0, nI_ee, nI_leI, nI_ltI, xbool0, xbool1, xbn0, xbn1, xb_0, xb_1, reduceIte, one0, Option.isNone_none, ne_eq, not_true_eq_false, not_false_eq_true, if_true, if_false, ite_not, Bool.true_and, Bool.and_true]
      rfl
theorem c_isTakenH {T0 MI : Nat} {M : xM} {a : Nat} {x : Int32} (e : xgetI M a 2 0 = some x) : xZ T0 MI 11 0 [some (vr (some a))] [] M = some (some (vi (tI (x = nI 4 ∨ x = nI 5))), M) := by
  rw [bq_11_0, e, Option.bind_some, k_4]
  by_cases a1 : x = nI 4
  · rw [if_pos a1, bq_11_16, bq_11_21, tI_t (Or.inl a1)]; rfl
  · rw [if_neg a1, bq_11_8, e, Option.bind_some, k_5]
    by_cases a2 : x = nI 5
    · rw [if_pos a2, bq_11_16, bq_11_21, tI_t (Or.inr a2)]; rfl
    · rw [if_neg a2, bq_11_20, bq_11_21, tI_f (fun h => h.elim a1 a2)]; rfl
theorem c_mvEp {T0 MI : Nat} {M : xM} {a : Nat} {x : Int32} (e : xgetI M a 2 3 = some x) : xZ T0 MI 12 0 [some (vr (some a))] [] M = some (some (vi (x + nI 1)), M) := by
  rw [bq_12_0, e, Option.bind_some, k_1]
/-! startAttempt -/
def yS : Nat → Nat → Nat
  | 0, _ => 0
  | m + 1, s => 2 * s + yS m (s + 1)
theorem yS_mono : ∀ {m n s : Nat}, m ≤ n → yS m s ≤ yS n s
  | 0, _, _, _ => Nat.zero_le _
  | m + 1, 0, _, h => by omega
  | m + 1, n + 1, s, h => by
    unfold yS
    have := yS_mono (m := m) (n := n) (s := s + 1) (by omega)
    omega
theorem yS_60 : yS 60 0 = 3540 := by decide +kernel
theorem c_sa_l {T0 MI g a ra ka sa : Nat} {h : Nat → Int32} {sn : Option Nat} {R : RW} {K : Nat → KW} : ∀ m i, i + m = R.length → ∀ (M : xM) (ow : xOw) (S : List Int32) (o1 : Option xV) (s : Nat), oHA M ow g a ra ka sa h sn R K S → S.length ≤ s → s + m < 500 → ∃ M' ow', xZ T0 MI 19 21 [some (vr (some a)), o1, some (vi (nI i))] [] M = some (none, M') ∧ oHA M' ow' g a ra ka sa h sn R K (((R.drop i).map Prod.fst).foldl addK S) ∧ stp (off g) m (yS m s) ow M ow' M' := by
  intro m
  induction m with
  | zero =>
    intro i hi M ow S o1 s H hls hb
    have bR := (oR_at H.2.2.2.1)
    obtain ⟨-, -, -, -, -, -, -, bl, -⟩ := bR
    refine ⟨M, ow, ?_, ?_, stp_w (stp_rf _ _ _) (fun _ h => h) (by omega) (by omega)⟩
    · rw [bq_19_21, hA_4 H, Option.bind_some, Option.bind_some, oR_sz H.2.2.2.1, Option.bind_some, if_pos (by rw [nI_leI (by omega) (by omega)]; omega), bq_19_54]
    · rw [List.drop_eq_nil_of_le (by omega)]
      exact H
  | succ m ih =>
    intro i hi M ow S o1 s H hls hb
    obtain ⟨kk, vv, f, w, h1, h2, h3, bl, hf, -⟩ := oR_at H.2.2.2.1
    have hii : i < R.length := by omega
    have hal := addK_len (l := S) (key := (R[i]).1)
    obtain ⟨M1, ow1, e1, k1, s1⟩ := oS_add (T0 := T0) (MI := MI) (key := (R[i]).1) (o2 := none) (o3 := none) H.2.2.2.2.2 (by omega)
    have H1 := hA_keys H k1 s1
    obtain ⟨M2, ow2, e2, H2, s2⟩ := ih (i + 1) (by omega) M1 ow1 (addK S (R[i]).1) (xinv o1) (s + 1) H1 (by omega) (by omega)
    refine ⟨M2, ow2, ?_, ?_, stp_w (stp_tr (off_r s1) s2) (fun _ h => h) (by omega) (show _ ≤ 2 * s + yS m (s + 1) by omega)⟩
    · have ra1 : xaI M kk (nI i) = some (R[i]).1 := by rw [aI h2, xin_t (by omega) (by omega), nI_clamp (by omega), (hf i hii).1]; rfl
      rw [bq_19_21, hA_4 H, Option.bind_some, Option.bind_some, oR_sz H.2.2.2.1, Option.bind_some, if_neg (by rw [nI_leI (by omega) (by omega)]; omega), bq_19_32, hA_13 H, Option.bind_some, hA_4 H, Option.bind_some, Option.bind_some, gR h1 1 rfl, Option.bind_some, Option.bind_some, ra1, Option.bind_some, Option.bind_some, oS_cls H.2.2.2.2.2, cond_true, e1]
      simp (decide := true) (disch := omega) only [Option.bind_some, xasI, xasL, xasR, xin_t, cond_true, cond_false, nI_clamp, k_0, k_1, k_2, k_3, k_4, k_5, k_6, k_40, k_60, k_500, k_10000, pk_mul, nI_add, nI_e0, nI_ee, nI_leI, nI_ltI, xbool0, xbool1, xbn0, xbn1, xb_0, xb_1, reduceIte, one0, Option.isNone_none, ne_eq, not_true_eq_false, not_false_eq_true, if_true, if_false, ite_not, Bool.true_and, Bool.and_true]
      rw [bq_19_48, nI_s, e2]
    · rw [drop_s _ hii, List.map_cons, List.foldl_cons]
      exact H2
theorem c_startA {T0 MI : Nat} {ow : xOw} {M : xM} {g a ra ka sa : Nat} {h : Nat → Int32} {sn : Option Nat} {R : RW} {K : Nat → KW} {S : List Int32} {x : Int32} {o2 : Option xV} (H : oHA M ow g a ra ka sa h sn R K S) : ∃ M' ow', xZ T0 MI 19 0 [some (vr (some a)), some (vi x), o2] [] M = some (none, M') ∧ oHA M' ow' g a ra ka sa (upd (upd (upd (upd h 12 (nI 0)) 0 (nI 2)) 9 x) 10 (nI 0)) none R K (sndL R) ∧ stp (off g) 60 3540 ow M ow' M' := by
  obtain ⟨M1, e1, H1, s1⟩ := c_endG (T0 := T0) (MI := MI) H
  obtain ⟨M2, e2, H2, s2⟩ := hA_i H1 0 (nI 2) (by simp)
  obtain ⟨M3, e3, H3, s3⟩ := hA_i H2 9 x (by simp)
  obtain ⟨M4, e4, H4, s4⟩ := hA_i H3 10 (nI 0) (by simp)
  have bl : R.length ≤ 60 := (oR_at H.2.2.2.1).choose_spec.choose_spec.choose_spec.choose_spec.2.2.2.1
  obtain ⟨M5, ow5, e5, H5, s5⟩ := c_sa_l (T0 := T0) (MI := MI) R.length 0 (by omega) M4 ow [] (some (vi x)) 0 H4 (by simp) (by omega)
  refine ⟨M5, ow5, ?_, H5, stp_w (stp_tr (stp_tr (stp_tr (stp_tr s1 (off_0 s2)) (off_0 s3)) (off_0 s4)) s5) (fun _ h => h) (by omega) (by have := yS_mono (m := R.length) (n := 60) (s := 0) bl; rw [yS_60] at this; omega)⟩
  rw [bq_19_0, hA_c H, cond_true, e1]
  simp (decide := true) (disch := omega) only [Option.bind_some, xasI, xasL, xasR, xin_t, cond_true, cond_false, nI_clamp, k_0, k_1, k_2, k_3, k_4, k_5, k_6, k_40, k_60, k_500, k_10000, pk_mul, nI_add, nI_e0, nI_ee, nI_leI, nI_ltI, xbool0, xbool1, xbn0, xbn1, xb_0, xb_1, reduceIte, one0, Option.isNone_none, ne_eq, not_true_eq_false, not_false_eq_true, if_true, if_false, ite_not, Bool.true_and, Bool.and_true]
  rw [bq_19_4, k_2, e2, Option.bind_some, e3, Option.bind_some, k_0, e4, Option.bind_some, e5]
