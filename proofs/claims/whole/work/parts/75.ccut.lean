/-! handOver, cutInto, swallow -/
theorem putA_end {A : RW} {x : Int32 × Int64} (h : A.length < 60) (hx : ∀ y ∈ A, y.1 < x.1) : putA A x = A ++ [x] := by
  unfold putA putL
  have hl : lkp Prod.fst x.1 A = none := lkp_none.mpr (fun y hy e => by
    have := hx y hy
    rw [e] at this
    exact i_irr this)
  rw [hl]
  dsimp only
  rw [if_neg (by omega)]
  have := insR_split (k := (Prod.fst : Int32 × Int64 → Int32)) (x := x) (B := []) (by simp) (A := A) (fun y hy e => i_irr (i_tr (hx y hy) e))
  rw [List.append_nil] at this
  exact this
theorem putA_all : ∀ (B A : RW), (A ++ B).length ≤ 60 → srt Prod.fst (A ++ B) → B.foldl putA A = A ++ B
  | [], A, _, _ => by rw [List.append_nil]; rfl
  | x :: B, A, hl, hs => by
    have h1 := (List.pairwise_append.mp hs).2.2
    rw [List.length_append, List.length_cons] at hl
    rw [List.foldl_cons, putA_end (by omega) (fun y hy => h1 y hy x (by simp))]
    have := putA_all B (A ++ [x]) (by simp; omega) (by rw [List.append_assoc]; exact hs)
    rw [this, List.append_assoc]
    rfl
theorem lo_take : ∀ (R : RW) (key : Int32), srt Prod.fst R → R.take (loR R key).length = loR R key
  | [], _, _ => rfl
  | x :: R, key, hs => by
    have h := List.pairwise_cons.mp hs
    unfold loR
    rw [List.filter_cons]
    by_cases e : x.1 < key
    · rw [if_pos (by simp [e]), List.length_cons, List.take_succ_cons]
      congr 1
      exact lo_take R key h.2
    · rw [if_neg (by simp [e])]
      have : R.filter (fun x => decide (x.1 < key)) = [] := List.filter_eq_nil_iff.mpr (fun y hy => by
        simp only [decide_eq_true_eq]
        intro hy2
        exact e (i_tr (h.1 y hy) hy2))
      rw [this]
      rfl
abbrev off2 (g g' : Nat) (t : Nat × Nat) : Prop := t.1 ≠ g ∧ t.1 ≠ g'
theorem c_hand_l {T0 MI g g' ra rb : Nat} {ow : xOw} {R : RW} {key : Int32} (hg : g ≠ g') : ∀ m i, i + m = R.length → ∀ (M : xM), oRows M ow g ra R → oRows M ow g' rb (hiR (R.take i) key) → ∃ M' x4, xZ T0 MI 58 5 [some (vr (some ra)), some (vr (some rb)), some (vi key), some (vi (nI (loR (R.take i) key).length)), some (vi (nI i))] [] M = xZ T0 MI 58 56 [some (vr (some ra)), some (vr (some rb)), some (vi key), some (vi (nI (loR R key).length)), some (vi x4)] [] M' ∧ oRows M' ow g ra R ∧ oRows M' ow g' rb (hiR R key) ∧ stp (fun t => ¬ inP g' 1 3 t) 0 0 ow M ow M' := by
  intro m
  induction m with
  | zero =>
    intro i hi M H H'
    obtain ⟨-, -, -, -, -, -, -, bl, -⟩ := oR_at H
    rw [List.take_of_length_le (by omega)] at H' ⊢
    refine ⟨M, nI i, ?_, H, H', stp_rf _ _ _⟩
    rw [bq_58_5, oR_sz H, Option.bind_some, if_pos (by rw [nI_leI (by omega) (by omega)]; omega)]
  | succ m ih =>
    intro i hi M H H'
    obtain ⟨kk, vv, f, w, h1, h2, h3, bl, hf, hs, -⟩ := oR_at H
    have hii : i < R.length := by omega
    have r1 : xaI M kk (nI i) = some (R[i]).1 := by rw [aI h2, xin_t (by omega) (by omega), nI_clamp (by omega), (hf i hii).1]; rfl
    have r2 : xaL M vv (nI i) = some (R[i]).2 := by rw [aL h3, xin_t (by omega) (by omega), nI_clamp (by omega), (hf i hii).2]; rfl
    have st : xZ T0 MI 58 5 [some (vr (some ra)), some (vr (some rb)), some (vi key), some (vi (nI (loR (R.take i) key).length)), some (vi (nI i))] [] M = if (R[i]).1 < key then xZ T0 MI 58 47 [some (vr (some ra)), some (vr (some rb)), some (vi key), some (vi (nI (loR (R.take i) key).length)), some (vi (nI i))] [] M else xZ T0 MI 58 25 [some (vr (some ra)), some (vr (some rb)), some (vi key), some (vi (nI (loR (R.take i) key).length)), some (vi (nI i))] [] M := by
      rw [bq_58_5, oR_sz H, Option.bind_some, if_neg (by rw [nI_leI (by omega) (by omega)]; omega), bq_58_14, gR h1 1 rfl, Option.bind_some, Option.bind_some, r1, Option.bind_some]
    rw [st]
    have tk := take_s R hii
    by_cases e : (R[i]).1 < key
    · have e1 : loR (R.take (i + 1)) key = loR (R.take i) key ++ [R[i]] := by
        unfold loR
        rw [tk, List.filter_append, List.filter_cons, if_pos (by simp [e])]
        rfl
      have e2 : hiR (R.take (i + 1)) key = hiR (R.take i) key := by
        unfold hiR
        rw [tk, List.filter_append, List.filter_cons, if_neg (by simp [e])]
        simp
      obtain ⟨M2, x4, g1, g2, g3, g4⟩ := ih (i + 1) (by omega) M H (by rw [e2]; exact H')
      refine ⟨M2, x4, ?_, g2, g3, g4⟩
      rw [if_pos e, bq_58_47, bq_58_50, nI_s, nI_s]
      rw [e1, List.length_append, List.length_singleton] at g1
      exact g1
    · have e1 : loR (R.take (i + 1)) key = loR (R.take i) key := by
        unfold loR
        rw [tk, List.filter_append, List.filter_cons, if_neg (by simp [e])]
        simp
      have e2 : hiR (R.take (i + 1)) key = hiR (R.take i) key ++ [R[i]] := by
        unfold hiR
        rw [tk, List.filter_append, List.filter_cons, if_pos (by simp [e])]
        rfl
      obtain ⟨M1, p1, p2, p3⟩ := oR_put (T0 := T0) (MI := MI) (key := (R[i]).1) (v := (R[i]).2) (o3 := none) (o4 := none) H'
      have hle : (hiR (R.take i) key).length ≤ i := Nat.le_trans (List.length_filter_le _ _) (by rw [List.length_take]; omega)
      have hput : (putL (hiR (R.take i) key) (R[i]).1 (R[i]).2).2 = hiR (R.take (i + 1)) key := by
        rw [e2]
        exact putA_end (A := hiR (R.take i) key) (x := R[i]) (by omega) (fun y hy => by
          have hy2 := (List.mem_filter.mp hy).1
          obtain ⟨j, hj, hjy⟩ := List.getElem_of_mem hy2
          rw [List.length_take] at hj
          rw [← hjy, List.getElem_take]
          exact List.pairwise_iff_getElem.mp hs j i (by omega) hii (by omega))
      rw [hput] at p2
      have H1 := oRows_f H p3 (fun t ht e => hg (ht.1.symm.trans e.1))
      obtain ⟨M2, x4, g1, g2, g3, g4⟩ := ih (i + 1) (by omega) M1 H1 p2
      refine ⟨M2, x4, ?_, g2, g3, stp_tr p3 g4⟩
      rw [if_neg e, bq_58_25, gR h1 1 rfl, Option.bind_some, Option.bind_some, r1, Option.bind_some, gR h1 2 rfl, Option.bind_some, Option.bind_some, r2, Option.bind_some, Option.bind_some, oR_cls H', cond_true, p1]
      simp (decide := true) (disch := omega) only [Option.bind_some, xasI, xasL, xasR, xin_t, cond_true, cond_false, nI_clamp, k_0, k_1, k_2, k_3, k_4, k_5, k_6, k_40, k_60, k_500, k_10000, pk_mul, nI_add, nI_e0, nI_ee, nI_leI, nI_ltI, xbool0, xbool1, xbn0, xbn1, xb_0, xb_1, reduceIte, one0, Option.isNone_none, ne_eq, not_true_eq_false, not_false_eq_true, if_true, if_false, ite_not, Bool.true_and, Bool.and_true]
      rw [bq_58_43, bq_58_50, nI_s]
      rw [e1] at g1
      exact g1
theorem oR_hand {T0 MI g g' ra rb : Nat} {M : xM} {ow : xOw} {R : RW} {key : Int32} {o3 o4 : Option xV} (hg : g ≠ g') (H : oRows M ow g ra R) (H' : oRows M ow g' rb []) : ∃ M', xZ T0 MI 58 0 [some (vr (some ra)), some (vr (some rb)), some (vi key), o3, o4] [] M = some (none, M') ∧ oRows M' ow g ra (loR R key) ∧ oRows M' ow g' rb (hiR R key) ∧ stp (fun t => ¬ inP g 1 3 t ∧ ¬ inP g' 1 3 t) 0 0 ow M ow M' := by
  obtain ⟨M1, x4, e1, h1, h2, s1⟩ := c_hand_l (T0 := T0) (MI := MI) (key := key) hg R.length 0 (by omega) M H H'
  have hs : srt Prod.fst R := (oR_at H).choose_spec.choose_spec.choose_spec.choose_spec.2.2.2.2.2.1
  obtain ⟨M2, e2, h3, s2⟩ := oR_cut (n := (loR R key).length) h1 (List.length_filter_le _ _)
  rw [lo_take R key hs] at h3
  refine ⟨M2, ?_, h3, oRows_f h2 s2 (fun t ht e => hg (e.1.symm.trans ht.1)), stp_tr (stp_w s1 (fun t ht => ht.2) (Nat.le_refl _) (Nat.le_refl _)) (stp_w s2 (fun t ht => ht.1) (Nat.le_refl _) (Nat.le_refl _))⟩
  rw [bq_58_0]
  refine Eq.trans e1 ?_
  rw [bq_58_56, e2, Option.bind_some]
/-- the same, any frame that keeps the other parts of the group -/
theorem hA_rowsP {P : Nat × Nat → Prop} {x y : Nat} {ow ow' : xOw} {M M' : xM} {g a ra ka sa : Nat} {h : Nat → Int32} {sn : Option Nat} {R R' : RW} {K : Nat → KW} {S : List Int32} (H : oHA M ow g a ra ka sa h sn R K S) (hr : oRows M' ow' g ra R') (hs : stp P x y ow M ow' M') (hP : ∀ t : Nat × Nat, t.1 = g → ¬ inP g 1 3 t → P t) : oHA M' ow' g a ra ka sa h sn R' K S := by
  obtain ⟨h1, o, b, r, k, s⟩ := H
  refine ⟨?_, ?_, ?_, hr, oKept_f k hs (fun t ht => hP t ht.1 (fun e => ?_)), oKeys_f s hs (fun t ht => hP t ht.1 (fun e => ?_))⟩
  · rw [(hs.2.2.2 a b).2 (by rw [o]; exact hP _ rfl (fun e => absurd e.2.1 (by simp)))]; exact h1
  · rw [(hs.2.2.2 a b).1]; exact o
  · have := hs.1; omega
  · have := ht.2.1; have := e.2.2; omega
  · have := ht.2.1; have := e.2.2; omega
def hW (h : Nat → Int32) (x y z : Int32) : Nat → Int32 := upd (upd (upd (upd (upd h 0 (nI 1)) 1 x) 2 y) 3 z) 12 (nI 0)
theorem c_cut {T0 MI : Nat} {ow : xOw} {M : xM} {g g' a ra ka sa a' ra' ka' sa' : Nat} {h h' : Nat → Int32} {sn sn' : Option Nat} {R R' : RW} {K K' : Nat → KW} {S S' : List Int32} {key z : Int32} (hg : g ≠ g') (H : oHA M ow g a ra ka sa h sn R K S) (H' : oHA M ow g' a' ra' ka' sa' h' sn' R' K' S') : ∃ M', xZ T0 MI 16 0 [some (vr (some a)), some (vr (some a')), some (vi key), some (vi z)] [] M = some (none, M') ∧ oHA M' ow g a ra ka sa (hW h (h 1) key z) none (loR R key) K [] ∧ oHA M' ow g' a' ra' ka' sa' (hW h' key (h 2) z) none (hiR R key) K [] ∧ stp (off2 g g') 0 0 ow M ow M' := by
  have o1 : ∀ {x y : Nat} {A B : xM}, stp (off g') x y ow A ow B → stp (off2 g g') x y ow A ow B := fun hs => stp_w hs (fun t ht => ht.2) (Nat.le_refl _) (Nat.le_refl _)
  have o2 : ∀ {x y : Nat} {A B : xM}, stp (off g) x y ow A ow B → stp (off2 g g') x y ow A ow B := fun hs => stp_w hs (fun t ht => ht.1) (Nat.le_refl _) (Nat.le_refl _)
  obtain ⟨M1, e1, A1, s1⟩ := c_beW (T0 := T0) (MI := MI) (x := key) (y := h 2) (z := z) H'
  have B1 := hA_f H s1 (fun t ht e => hg (ht.symm.trans e))
  obtain ⟨M2, e2, B2, s2⟩ := c_beW (T0 := T0) (MI := MI) (x := h 1) (y := key) (z := z) B1
  have A2 := hA_f A1 s2 (fun t ht e => hg (e.symm.trans ht))
  obtain ⟨M3, e3, r3, s3⟩ := oR_cut (n := 0) A2.2.2.2.1 (Nat.zero_le _)
  have A3 := hA_rows A2 r3 s3
  have B3 := hA_f B2 s3 (fun t ht e => hg (ht.symm.trans e.1))
  obtain ⟨M4, e4, r4, r4', s4⟩ := oR_hand (T0 := T0) (MI := MI) (key := key) (o3 := none) (o4 := none) hg B3.2.2.2.1 A3.2.2.2.1
  have B4 : oHA M4 ow g a ra ka sa (hW h (h 1) key z) none (loR R key) K [] := hA_rowsP B3 r4 s4 (fun t ht e => ⟨e, fun e' => hg (ht.symm.trans e'.1)⟩)
  have A4 : oHA M4 ow g' a' ra' ka' sa' (hW h' key (h 2) z) none (hiR R key) K' [] := hA_rowsP A3 r4' s4 (fun t ht e => ⟨fun e' => hg (e'.1.symm.trans ht), e⟩)
  obtain ⟨M5, e5, k5, s5⟩ := oK_become (T0 := T0) (MI := MI) A4.2.2.2.2.1 B4.2.2.2.2.1 (Ne.symm hg)
  have A5 := hA_kept A4 k5 s5
  have B5 := hA_f B4 s5 (fun t ht e => hg (ht.symm.trans e.1))
  refine ⟨M5, ?_, B5, A5, stp_tr (stp_tr (stp_tr (stp_tr (o1 s1) (o2 s2)) (o1 (off_r s3))) (stp_w s4 (fun t ht => ⟨fun e => ht.1 e.1, fun e => ht.2 e.1⟩) (Nat.le_refl _) (Nat.le_refl _))) (o1 (off_r s5))⟩
  have g2 : xgetI M a 2 2 = some (h 2) := hA_g H 2 (by simp)
  have g1 : xgetI M1 a 2 1 = some (h 1) := hA_g B1 1 (by simp)
  rw [bq_16_0, g2, Option.bind_some, Option.bind_some, hA_c H', cond_true, e1]
  simp (decide := true) (disch := omega) only [Option.bind_some, xasI, xasL, xasR, xin_t, cond_true, cond_false, nI_clamp, k_0, k_1, k_2, k_3, k_4, k_5, k_6, k_40, k_60, k_500, k_10000, pk_mul, nI_add, nI_e0, nI_ee, nI_leI, nI_ltI, xbool0, xbool1, xbn0, xbn1, xb_0, xb_1, reduceIte, one0, Option.isNone_none, ne_eq, not_true_eq_false, not_false_eq_true, if_true, if_false, ite_not, Bool.true_and, Bool.and_true]
  rw [bq_16_10, g1, Option.bind_some, hA_c B1, cond_true, e2]
  simp (decide := true) (disch := omega) only [Option.bind_some, xasI, xasL, xasR, xin_t, cond_true, cond_false, nI_clamp, k_0, k_1, k_2, k_3, k_4, k_5, k_6, k_40, k_60, k_500, k_10000, pk_mul, nI_add, nI_e0, nI_ee, nI_leI, nI_ltI, xbool0, xbool1, xbn0, xbn1, xb_0, xb_1, reduceIte, one0, Option.isNone_none, ne_eq, not_true_eq_false, not_false_eq_true, if_true, if_false, ite_not, Bool.true_and, Bool.and_true]
  rw [bq_16_20, Option.bind_some, hA_4 A2, Option.bind_some, Option.bind_some, k_0, e3, Option.bind_some, hA_4 B3, Option.bind_some, Option.bind_some, hA_4 A3, Option.bind_some, Option.bind_some, oR_cls B3.2.2.2.1, cond_true, e4]
  simp (decide := true) (disch := omega) only [Option.bind_some, xasI, xasL, xasR, xin_t, cond_true, cond_false, nI_clamp, k_0, k_1, k_2, k_3, k_4, k_5, k_6, k_40, k_60, k_500, k_10000, pk_mul, nI_add, nI_e0, nI_ee, nI_leI, nI_ltI, xbool0, xbool1, xbn0, xbn1, xb_0, xb_1, reduceIte, one0, Option.isNone_none, ne_eq, not_true_eq_false, not_false_eq_true, if_true, if_false, ite_not, Bool.true_and, Bool.and_true]
  rw [bq_16_40, Option.bind_some, hA_5 A4, Option.bind_some, hA_5 B4, Option.bind_some, Option.bind_some, oK_cls A4.2.2.2.2.1, cond_true, e5]
  simp (decide := true) (disch := omega) only [Option.bind_some, xasI, xasL, xasR, xin_t, cond_true, cond_false, nI_clamp, k_0, k_1, k_2, k_3, k_4, k_5, k_6, k_40, k_60, k_500, k_10000, pk_mul, nI_add, nI_e0, nI_ee, nI_leI, nI_ltI, xbool0, xbool1, xbn0, xbn1, xb_0, xb_1, reduceIte, one0, Option.isNone_none, ne_eq, not_true_eq_false, not_false_eq_true, if_true, if_false, ite_not, Bool.true_and, Bool.and_true]
  rw [bq_16_51]
theorem c_swal_l {T0 MI : Nat} {ow : xOw} {g g' a ra ka sa a' ra' ka' sa' : Nat} {h h' : Nat → Int32} {sn sn' : Option Nat} {R' : RW} {K K' : Nat → KW} {S S' : List Int32} (hg : g ≠ g') : ∀ m i, i + m = R'.length → ∀ (M : xM) (R : RW), oHA M ow g a ra ka sa h sn R K S → oHA M ow g' a' ra' ka' sa' h' sn' R' K' S' → ∃ M', xZ T0 MI 17 2 [some (vr (some a)), some (vr (some a')), some (vi (nI i))] [] M = xZ T0 MI 17 45 [some (vr (some a)), some (vr (some a')), some (vi (nI R'.length))] [] M' ∧ oHA M' ow g a ra ka sa h sn ((R'.drop i).foldl putA R) K S ∧ oHA M' ow g' a' ra' ka' sa' h' sn' R' K' S' ∧ stp (off g) 0 0 ow M ow M' := by
  intro m
  induction m with
  | zero =>
    intro i hi M R H H'
    obtain ⟨-, -, -, -, -, -, -, bl, -⟩ := oR_at H'.2.2.2.1
    have : i = R'.length := by omega
    subst this
    refine ⟨M, ?_, ?_, H', stp_rf _ _ _⟩
    · rw [bq_17_2, Option.bind_some, hA_4 H', Option.bind_some, Option.bind_some, oR_sz H'.2.2.2.1, Option.bind_some, if_pos (by rw [nI_leI (by omega) (by omega)]; omega)]
    · rw [List.drop_eq_nil_of_le (by omega)]
      exact H
  | succ m ih =>
    intro i hi M R H H'
    obtain ⟨kk, vv, f, w, h1, h2, h3, bl, hf, -⟩ := oR_at H'.2.2.2.1
    have hii : i < R'.length := by omega
    have r1 : xaI M kk (nI i) = some (R'[i]).1 := by rw [aI h2, xin_t (by omega) (by omega), nI_clamp (by omega), (hf i hii).1]; rfl
    have r2 : xaL M vv (nI i) = some (R'[i]).2 := by rw [aL h3, xin_t (by omega) (by omega), nI_clamp (by omega), (hf i hii).2]; rfl
    obtain ⟨M1, e1, p2, s1⟩ := oR_put (T0 := T0) (MI := MI) (key := (R'[i]).1) (v := (R'[i]).2) (o3 := none) (o4 := none) H.2.2.2.1
    have H1 := hA_rows H p2 s1
    have H1' := hA_f H' s1 (fun t ht e => hg (e.1.symm.trans ht))
    obtain ⟨M2, e2, H2, H2', s2⟩ := ih (i + 1) (by omega) M1 _ H1 H1'
    refine ⟨M2, ?_, ?_, H2', stp_tr (off_r s1) s2⟩
    · rw [bq_17_2, Option.bind_some, hA_4 H', Option.bind_some, Option.bind_some, oR_sz H'.2.2.2.1, Option.bind_some, if_neg (by rw [nI_leI (by omega) (by omega)]; omega), bq_17_13, hA_4 H, Option.bind_some, Option.bind_some, hA_4 H', Option.bind_some, Option.bind_some, gR h1 1 rfl, Option.bind_some, Option.bind_some, r1, Option.bind_some, Option.bind_some, hA_4 H', Option.bind_some, Option.bind_some, gR h1 2 rfl, Option.bind_some, Option.bind_some, r2, Option.bind_some, Option.bind_some, oR_cls H.2.2.2.1, cond_true, e1]
      simp (decide := true) (disch := omega) only [Option.bind_some, xasI, xasL, xasR, xin_t, cond_true, cond_false, nI_clamp, k_0, k_1, k_2, k_3, k_4, k_5, k_6, k_40, k_60, k_500, k_10000, pk_mul, nI_add, nI_e0, nI_ee, nI_leI, nI_ltI, xbool0, xbool1, xbn0, xbn1, xb_0, xb_1, reduceIte, one0, Option.isNone_none, ne_eq, not_true_eq_false, not_false_eq_true, if_true, if_false, ite_not, Bool.true_and, Bool.and_true]
      rw [bq_17_38, nI_s, e2]
    · rw [drop_s _ hii, List.foldl_cons]
      exact H2
theorem c_swal {T0 MI : Nat} {ow : xOw} {M : xM} {g g' a ra ka sa a' ra' ka' sa' : Nat} {h h' : Nat → Int32} {sn sn' : Option Nat} {R R' : RW} {K K' : Nat → KW} {S S' : List Int32} {o2 : Option xV} (hg : g ≠ g') (H : oHA M ow g a ra ka sa h sn R K S) (H' : oHA M ow g' a' ra' ka' sa' h' sn' R' K' S') : ∃ M', xZ T0 MI 17 0 [some (vr (some a)), some (vr (some a')), o2] [] M = some (none, M') ∧ oHA M' ow g a ra ka sa h sn (R'.foldl putA R) (fun c => (K' c).foldl keepL (K c)) S ∧ oHA M' ow g' a' ra' ka' sa' (upd (upd h' 0 (nI 0)) 12 (nI 0)) none [] (fun _ => []) [] ∧ stp (off2 g g') 0 0 ow M ow M' := by
  obtain ⟨M1, e1, H1, H1', s1⟩ := c_swal_l (T0 := T0) (MI := MI) hg R'.length 0 (by omega) M R H H'
  obtain ⟨M2, e2, k2, s2⟩ := oK_join (T0 := T0) (MI := MI) (o2 := none) (o3 := none) (o4 := none) H1.2.2.2.2.1 H1'.2.2.2.2.1 hg
  have H2 := hA_kept H1 k2 s2
  have H2' := hA_f H1' s2 (fun t ht e => hg (e.1.symm.trans ht))
  obtain ⟨M3, e3, H3', s3⟩ := c_beN (T0 := T0) (MI := MI) H2'
  have H3 := hA_f H2 s3 (fun t ht e => hg (ht.symm.trans e))
  refine ⟨M3, ?_, H3, H3', stp_tr (stp_tr (stp_w s1 (fun t ht => ht.1) (Nat.le_refl _) (Nat.le_refl _)) (stp_w (off_r s2) (fun t ht => ht.1) (Nat.le_refl _) (Nat.le_refl _))) (stp_w s3 (fun t ht => ht.2) (Nat.le_refl _) (Nat.le_refl _))⟩
  rw [bq_17_0, k_0, e1, bq_17_45, hA_5 H1, Option.bind_some, Option.bind_some, hA_5 H1', Option.bind_some, Option.bind_some, oK_cls H1.2.2.2.2.1, cond_true, e2]
  simp (decide := true) (disch := omega) only [Option.bind_some, xasI, xasL, xasR, xin_t, cond_true, cond_false, nI_clamp, k_0, k_1, k_2, k_3, k_4, k_5, k_6, k_40, k_60, k_500, k_10000, pk_mul, nI_add, nI_e0, nI_ee, nI_leI, nI_ltI, xbool0, xbool1, xbn0, xbn1, xb_0, xb_1, reduceIte, one0, Option.isNone_none, ne_eq, not_true_eq_false, not_false_eq_true, if_true, if_false, ite_not, Bool.true_and, Bool.and_true]
  rw [bq_17_56, Option.bind_some, hA_c H2', cond_true, e3]
  simp (decide := true) (disch := omega) only [Option.bind_some, xasI, xasL, xasR, xin_t, cond_true, cond_false, nI_clamp, k_0, k_1, k_2, k_3, k_4, k_5, k_6, k_40, k_60, k_500, k_10000, pk_mul, nI_add, nI_e0, nI_ee, nI_leI, nI_ltI, xbool0, xbool1, xbn0, xbn1, xb_0, xb_1, reduceIte, one0, Option.isNone_none, ne_eq, not_true_eq_false, not_false_eq_true, if_true, if_false, ite_not, Bool.true_and, Bool.and_true]
  rw [bq_17_60]
