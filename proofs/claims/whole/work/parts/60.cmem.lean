/-! THE CLASS: memory, cell by cell -/
theorem xset_at (M : xM) (a : Nat) (e : xE) : (xset M a e).2.2 a = e := va_up_self _ _ _
theorem xset_ne (M : xM) {a b : Nat} (e : xE) (h : b ≠ a) : (xset M a e).2.2 b = M.2.2 b := va_up_ne _ _ h
theorem xset_xset (M : xM) (a : Nat) (e e' : xE) : xset (xset M a e) a e' = xset M a e' := by
  unfold xset
  dsimp only
  rw [va_up_up]
theorem xset_comm (M : xM) {a b : Nat} (e e' : xE) (h : a ≠ b) : xset (xset M a e) b e' = xset (xset M b e') a e := by
  unfold xset
  dsimp only
  rw [va_up_comm _ h]
theorem xset_id {M : xM} {a : Nat} {e : xE} (h : M.2.2 a = e) : xset M a e = M := by
  unfold xset
  rw [← h, va_up_id]
/-! reading and writing, with the cell known -/
theorem gV {M : xM} {a c k : Nat} {fs : List xV} (h : M.2.2 a = .inr (c, fs)) : xgetV M a c k = fs[k]? := by
  unfold xgetV
  rw [h]
  dsimp only
  rw [show Nat.beq c c = true from Nat.beq_refl c]
  rfl
theorem gI {M : xM} {a c : Nat} {fs : List xV} (h : M.2.2 a = .inr (c, fs)) (k : Nat) {x : Int32} (hk : fs[k]? = some (vi x)) : xgetI M a c k = some x := by
  unfold xgetI
  rw [gV h, hk]
  rfl
theorem gL {M : xM} {a c : Nat} {fs : List xV} (h : M.2.2 a = .inr (c, fs)) (k : Nat) {x : Int64} (hk : fs[k]? = some (vl x)) : xgetL M a c k = some x := by
  unfold xgetL
  rw [gV h, hk]
  rfl
theorem gR {M : xM} {a c : Nat} {fs : List xV} (h : M.2.2 a = .inr (c, fs)) (k : Nat) {x : Option Nat} (hk : fs[k]? = some (vr x)) : xgetR M a c k = some x := by
  unfold xgetR
  rw [gV h, hk]
  rfl
theorem pV {M : xM} {a c : Nat} {fs : List xV} (h : M.2.2 a = .inr (c, fs)) (k : Nat) (hk : Nat.blt k fs.length = true) (v : xV) : xput M a c k v = some (xset M a (.inr (c, fs.set k v))) := by
  unfold xput
  rw [h]
  dsimp only
  rw [show Nat.beq c c = true from Nat.beq_refl c, hk]
  rfl
theorem gC {M : xM} {a c : Nat} {fs : List xV} (h : M.2.2 a = .inr (c, fs)) : xcls M a c = true := by
  unfold xcls
  rw [h]
  exact Nat.beq_refl c
theorem gCO {M : xM} {a c : Nat} {fs : List xV} (h : M.2.2 a = .inr (c, fs)) : xclsO M a = some c := by
  unfold xclsO
  rw [h]
theorem aI {M : xM} {a n : Nat} {f : Nat → Int32} (h : M.2.2 a = .inl (0, n, .inl f)) (i : Int32) : xaI M a i = bif xin i n then some (f i.toNatClampNeg) else none := by
  unfold xaI
  rw [h]
  rfl
theorem aZ {M : xM} {a n : Nat} {f : Nat → Int32} (h : M.2.2 a = .inl (2, n, .inl f)) (i : Int32) : xaZ M a i = bif xin i n then some (f i.toNatClampNeg) else none := by
  unfold xaZ
  rw [h]
  rfl
theorem aL {M : xM} {a n : Nat} {f : Nat → Int64} (h : M.2.2 a = .inl (1, n, .inr (.inl f))) (i : Int32) : xaL M a i = bif xin i n then some (f i.toNatClampNeg) else none := by
  unfold xaL
  rw [h]
  rfl
theorem aR {M : xM} {a t n : Nat} {f : Nat → Option Nat} (h : M.2.2 a = .inl (t, n, .inr (.inr f))) (ht : xtR t = true) (i : Int32) : xaR M a i = bif xin i n then some (f i.toNatClampNeg) else none := by
  unfold xaR
  rw [h]
  dsimp only
  rw [ht]
  rfl
theorem sI {M : xM} {a n : Nat} {f : Nat → Int32} (h : M.2.2 a = .inl (0, n, .inl f)) (i x : Int32) : xsI M a i x = bif xin i n then some (xset M a (.inl (0, n, .inl (upd f i.toNatClampNeg x)))) else none := by
  unfold xsI
  rw [h]
  rfl
theorem sZ {M : xM} {a n : Nat} {f : Nat → Int32} (h : M.2.2 a = .inl (2, n, .inl f)) (i x : Int32) : xsZ M a i x = bif (xin i n && xbool x) then some (xset M a (.inl (2, n, .inl (upd f i.toNatClampNeg x)))) else none := by
  unfold xsZ
  rw [h]
  rfl
theorem sL {M : xM} {a n : Nat} {f : Nat → Int64} (h : M.2.2 a = .inl (1, n, .inr (.inl f))) (i : Int32) (x : Int64) : xsL M a i x = bif xin i n then some (xset M a (.inl (1, n, .inr (.inl (vp_updL f i.toNatClampNeg x))))) else none := by
  unfold xsL
  rw [h]
  rfl
theorem sR {M : xM} {a t n : Nat} {f : Nat → Option Nat} (h : M.2.2 a = .inl (t, n, .inr (.inr f))) (ht : xtR t = true) (i : Int32) (r : Option Nat) : xsR M a i r = bif (xin i n && xmayR M t r) then some (xset M a (.inl (t, n, .inr (.inr (va_up f i.toNatClampNeg r))))) else none := by
  unfold xsR
  rw [h]
  dsimp only
  rw [ht]
  rfl
theorem mayR {M : xM} {t v c : Nat} {fs : List xV} (h : M.2.2 v = .inr (c, fs)) (ht : xfitR t c = true) : xmayR M t (some v) = true := by
  unfold xmayR
  dsimp only
  rw [gCO h]
  exact ht
theorem mayN (M : xM) (t : Nat) : xmayR M t none = true := rfl
/-! Rows: as the reference's place 0 -/
def pRq (a ka va : Nat) (q : xrho) (M : xM) : xM := xset (xset (xset M a (.inr (9, [vi (q.1 19 0), vr (some ka), vr (some va)]))) ka (.inl (0, 60, .inl (q.1 20)))) va (.inl (1, 60, .inr (.inl (q.2 27))))
abbrev nd3 (a b c : Nat) : Prop := a ≠ b ∧ a ≠ c ∧ b ≠ c
theorem pR_o {a ka va : Nat} {q : xrho} {M : xM} (D : nd3 a ka va) : (pRq a ka va q M).2.2 a = .inr (9, [vi (q.1 19 0), vr (some ka), vr (some va)]) := by
  unfold pRq
  rw [xset_ne _ _ D.2.1, xset_ne _ _ D.1, xset_at]
theorem pR_ka {a ka va : Nat} {q : xrho} {M : xM} (D : nd3 a ka va) : (pRq a ka va q M).2.2 ka = .inl (0, 60, .inl (q.1 20)) := by
  unfold pRq
  rw [xset_ne _ _ D.2.2, xset_at]
theorem pR_va {a ka va : Nat} {q : xrho} {M : xM} : (pRq a ka va q M).2.2 va = .inl (1, 60, .inr (.inl (q.2 27))) := by
  unfold pRq
  rw [xset_at]
theorem pR_out {a ka va b : Nat} {q : xrho} {M : xM} (h1 : b ≠ a) (h2 : b ≠ ka) (h3 : b ≠ va) : (pRq a ka va q M).2.2 b = M.2.2 b := by
  unfold pRq
  rw [xset_ne _ _ h3, xset_ne _ _ h2, xset_ne _ _ h1]
theorem pR_n {a ka va : Nat} {q : xrho} {M : xM} (D : nd3 a ka va) : xgetI (pRq a ka va q M) a 9 0 = some (q.1 19 0) := gI (pR_o D) 0 rfl
theorem pR_1 {a ka va : Nat} {q : xrho} {M : xM} (D : nd3 a ka va) : xgetR (pRq a ka va q M) a 9 1 = some (some ka) := gR (pR_o D) 1 rfl
theorem pR_2 {a ka va : Nat} {q : xrho} {M : xM} (D : nd3 a ka va) : xgetR (pRq a ka va q M) a 9 2 = some (some va) := gR (pR_o D) 2 rfl
theorem pR_c {a ka va : Nat} {q : xrho} {M : xM} (D : nd3 a ka va) : xcls (pRq a ka va q M) a 9 = true := gC (pR_o D)
theorem pR_aI {a ka va : Nat} {q : xrho} {M : xM} (D : nd3 a ka va) (i : Int32) : xaI (pRq a ka va q M) ka i = bif xin i 60 then some (q.1 20 i.toNatClampNeg) else none := aI (pR_ka D) i
theorem pR_aL {a ka va : Nat} {q : xrho} {M : xM} (i : Int32) : xaL (pRq a ka va q M) va i = bif xin i 60 then some (q.2 27 i.toNatClampNeg) else none := aL pR_va i
theorem pR_sI {a ka va : Nat} {q : xrho} {M : xM} (D : nd3 a ka va) (i x : Int32) : xsI (pRq a ka va q M) ka i x = bif xin i 60 then some (pRq a ka va (rup q 20 i.toNatClampNeg x) M) else none := by
  rw [sI (pR_ka D)]
  unfold pRq
  rw [xset_comm _ _ _ (Ne.symm D.2.2), xset_xset]
  rfl
theorem pR_sL {a ka va : Nat} {q : xrho} {M : xM} (i : Int32) (x : Int64) : xsL (pRq a ka va q M) va i x = bif xin i 60 then some (pRq a ka va (rupL q 27 i.toNatClampNeg x) M) else none := by
  rw [sL pR_va]
  unfold pRq
  rw [xset_xset]
  rfl
theorem pR_p {a ka va : Nat} {q : xrho} {M : xM} (D : nd3 a ka va) (x : Int32) : xput (pRq a ka va q M) a 9 0 (vi x) = some (pRq a ka va (rup q 19 0 x) M) := by
  rw [pV (pR_o D) 0 rfl]
  unfold pRq
  rw [xset_comm _ _ _ (Ne.symm D.2.1), xset_comm _ _ _ (Ne.symm D.1), xset_xset, rup_at]
  rfl
/-! Rows.find, valueOf, put, drop -/
theorem c_rfind_l {T0 MI a ka va n : Nat} {q : xrho} {key : Int32} {M : xM} (D : nd3 a ka va) (hn : n ≤ 60) (hq : q.1 19 0 = nI n) : ∀ m k, k + m = n → xZ T0 MI 54 2 [some (vr (some a)), some (vi key), some (vi (nI k))] [] (pRq a ka va q M) = some (some (vi (rfndI (rfnd (fun j => q.1 20 (60 * 0 + j)) key k m) (60 * 0))), pRq a ka va q M) := by
  intro m
  induction m with
  | zero =>
    intro k hk
    simp (decide := true) (disch := omega) only [bq_54_2, Option.bind_some, xasI, xasL, xasR, xin_t, cond_true, cond_false, nI_clamp, k_0, k_1, k_2, k_3, k_4, k_5, k_6, k_40, k_60, k_500, k_10000, pk_mul, nI_add, nI_e0, nI_ee, nI_leI, nI_ltI, xbool0, xbool1, xbn0, xbn1, xb_0, xb_1, reduceIte, one0, Option.isNone_none, ne_eq, not_true_eq_false, not_false_eq_true, if_true, if_false, ite_not, Bool.true_and, Bool.and_true, pR_n D, hq]
    rw [if_pos (by omega), bq_54_28]
    rfl
  | succ m ih =>
    intro k hk
    simp (decide := true) (disch := omega) only [bq_54_2, Option.bind_some, xasI, xasL, xasR, xin_t, cond_true, cond_false, nI_clamp, k_0, k_1, k_2, k_3, k_4, k_5, k_6, k_40, k_60, k_500, k_10000, pk_mul, nI_add, nI_e0, nI_ee, nI_leI, nI_ltI, xbool0, xbool1, xbn0, xbn1, xb_0, xb_1, reduceIte, one0, Option.isNone_none, ne_eq, not_true_eq_false, not_false_eq_true, if_true, if_false, ite_not, Bool.true_and, Bool.and_true, pR_n D, hq]
    rw [if_neg (by omega)]
    simp (decide := true) (disch := omega) only [bq_54_10, Option.bind_some, xasI, xasL, xasR, xin_t, cond_true, cond_false, nI_clamp, k_0, k_1, k_2, k_3, k_4, k_5, k_6, k_40, k_60, k_500, k_10000, pk_mul, nI_add, nI_e0, nI_ee, nI_leI, nI_ltI, xbool0, xbool1, xbn0, xbn1, xb_0, xb_1, reduceIte, one0, Option.isNone_none, ne_eq, not_true_eq_false, not_false_eq_true, if_true, if_false, ite_not, Bool.true_and, Bool.and_true, pR_1 D, pR_aI D]
    unfold rfnd
    rw [show 60 * 0 + k = k by omega]
    by_cases e : q.1 20 k = key
    · rw [if_pos e, if_pos e, bq_54_20]
      show some (some (vi (nI k)), _) = some (some (vi (nI (60 * 0 + k))), _)
      rw [show 60 * 0 + k = k by omega]
    · rw [if_neg e, if_neg e, bq_54_22, nI_s]
      exact ih (k + 1) (by omega)
theorem c_rfind {T0 MI a ka va n : Nat} {q : xrho} {key : Int32} {M : xM} {o2 : Option xV} (D : nd3 a ka va) (hn : n ≤ 60) (hq : q.1 19 0 = nI n) : xZ T0 MI 54 0 [some (vr (some a)), some (vi key), o2] [] (pRq a ka va q M) = some (some (vi (rfndI (rfnd (fun j => q.1 20 (60 * 0 + j)) key 0 n) (60 * 0))), pRq a ka va q M) := by
  rw [bq_54_0, k_0]
  exact c_rfind_l D hn hq n 0 (by omega)
theorem c_rvalue {T0 MI a ka va : Nat} {q : xrho} {key : Int32} {M : xM} {o2 : Option xV} {l : RW} (D : nd3 a ka va) (hR : PR q 0 l) : xZ T0 MI 55 0 [some (vr (some a)), some (vi key), o2] [] (pRq a ka va q M) = some (some (vl (lkv (lkp Prod.fst key l))), pRq a ka va q M) := by
  have hl := PR_lkp hR key
  simp (decide := true) (disch := omega) only [bq_55_0, Option.bind_some, xasI, xasL, xasR, xin_t, cond_true, cond_false, nI_clamp, k_0, k_1, k_2, k_3, k_4, k_5, k_6, k_40, k_60, k_500, k_10000, pk_mul, nI_add, nI_e0, nI_ee, nI_leI, nI_ltI, xbool0, xbool1, xbn0, xbn1, xb_0, xb_1, reduceIte, one0, Option.isNone_none, ne_eq, not_true_eq_false, not_false_eq_true, if_true, if_false, ite_not, Bool.true_and, Bool.and_true, pR_c D]
  rw [c_rfind D hR.2.1 hR.1]
  cases ho : rfnd (fun j => q.1 20 (60 * 0 + j)) key 0 l.length with
  | none =>
    rw [ho] at hl
    dsimp only at hl
    rw [hl]
    simp (decide := true) (disch := omega) only [bq_55_5, Option.bind_some, xasI, xasL, xasR, xin_t, cond_true, cond_false, nI_clamp, k_0, k_1, k_2, k_3, k_4, k_5, k_6, k_40, k_60, k_500, k_10000, pk_mul, nI_add, nI_e0, nI_ee, nI_leI, nI_ltI, xbool0, xbool1, xbn0, xbn1, xb_0, xb_1, reduceIte, one0, Option.isNone_none, ne_eq, not_true_eq_false, not_false_eq_true, if_true, if_false, ite_not, Bool.true_and, Bool.and_true]
    rw [bq_55_10, bq_55_20]
    rfl
  | some j =>
    rw [ho] at hl
    dsimp only at hl
    rw [hl.2]
    have hj := hl.1
    simp (decide := true) (disch := omega) only [bq_55_5, Option.bind_some, xasI, xasL, xasR, xin_t, cond_true, cond_false, nI_clamp, k_0, k_1, k_2, k_3, k_4, k_5, k_6, k_40, k_60, k_500, k_10000, pk_mul, nI_add, nI_e0, nI_ee, nI_leI, nI_ltI, xbool0, xbool1, xbn0, xbn1, xb_0, xb_1, reduceIte, one0, Option.isNone_none, ne_eq, not_true_eq_false, not_false_eq_true, if_true, if_false, ite_not, Bool.true_and, Bool.and_true]
    rw [show rfndI (some j) (60 * 0) = nI (60 * 0 + j) from rfl, if_pos (le_0 (by omega))]
    simp (decide := true) (disch := omega) only [bq_55_14, bq_55_20, Option.bind_some, xasI, xasL, xasR, xin_t, cond_true, cond_false, nI_clamp, k_0, k_1, k_2, k_3, k_4, k_5, k_6, k_40, k_60, k_500, k_10000, pk_mul, nI_add, nI_e0, nI_ee, nI_leI, nI_ltI, xbool0, xbool1, xbn0, xbn1, xb_0, xb_1, reduceIte, one0, Option.isNone_none, ne_eq, not_true_eq_false, not_false_eq_true, if_true, if_false, ite_not, Bool.true_and, Bool.and_true, pR_2 D, pR_aL]
    rfl
theorem c_rput_e {T0 MI a ka va n pos : Nat} {q : xrho} {key : Int32} {v : Int64} {o3 : Option xV} {M : xM} (D : nd3 a ka va) (hn : n < 60) (hpos : pos ≤ n) (hq : q.1 19 0 = nI n) : xZ T0 MI 56 95 [some (vr (some a)), some (vi key), some (vl v), o3, some (vi (nI pos))] [] (pRq a ka va (lsh q (60 * 0) pos n) M) = some (some (vi 1), pRq a ka va (layq q 0 n pos key v) M) := by
  have e : (rupL (rup (lsh q (60 * 0) pos n) 20 pos key) 27 pos v).1 19 0 = nI n := by
    rw [rupL_1, rup_ne _ _ _ _ (by decide), lsh_19, hq]
  simp (decide := true) (disch := omega) only [bq_56_95, Option.bind_some, xasI, xasL, xasR, xin_t, cond_true, cond_false, nI_clamp, k_0, k_1, k_2, k_3, k_4, k_5, k_6, k_40, k_60, k_500, k_10000, pk_mul, nI_add, nI_e0, nI_ee, nI_leI, nI_ltI, xbool0, xbool1, xbn0, xbn1, xb_0, xb_1, reduceIte, one0, Option.isNone_none, ne_eq, not_true_eq_false, not_false_eq_true, if_true, if_false, ite_not, Bool.true_and, Bool.and_true, pR_1 D, pR_2 D, pR_sI D, pR_sL, pR_n D, pR_p D, e]
  unfold layq
  rw [show 60 * 0 + pos = pos by omega]
  rfl
theorem c_rput_l {T0 MI a ka va n : Nat} {q : xrho} {key : Int32} {v : Int64} {M : xM} (D : nd3 a ka va) (hn : n < 60) (hq : q.1 19 0 = nI n) : ∀ j, j ≤ n → ∀ o3, xZ T0 MI 56 39 [some (vr (some a)), some (vi key), some (vl v), o3, some (vi (nI j))] [] (pRq a ka va (lsh q (60 * 0) j n) M) = some (some (vi 1), pRq a ka va (layq q 0 n (rpos (fun x => q.1 20 (60 * 0 + x)) key j) key v) M) := by
  intro j
  induction j with
  | zero =>
    intro hj o3
    rw [bq_56_39, if_pos (by decide)]
    exact c_rput_e D hn hj hq
  | succ j ih =>
    intro hj o3
    rw [bq_56_39, if_neg (show ¬ (nI (j + 1) ≤ 0) by
      intro h
      have h2 : nI (j + 1) ≤ nI 0 := h
      rw [nI_leI (by omega) (by omega)] at h2
      omega)]
    have r1 : (lsh q (60 * 0) (j + 1) n).1 20 j = q.1 20 j := lsh_at (by omega)
    rw [bq_56_44, k_1, nI_s1]
    simp (decide := true) (disch := omega) only [Option.bind_some, xasI, xasL, xasR, xin_t, cond_true, cond_false, nI_clamp, k_0, k_1, k_2, k_3, k_4, k_5, k_6, k_40, k_60, k_500, k_10000, pk_mul, nI_add, nI_e0, nI_ee, nI_leI, nI_ltI, xbool0, xbool1, xbn0, xbn1, xb_0, xb_1, reduceIte, one0, Option.isNone_none, ne_eq, not_true_eq_false, not_false_eq_true, if_true, if_false, ite_not, Bool.true_and, Bool.and_true, pR_1 D, pR_aI D, r1]
    by_cases h : key < q.1 20 j
    · rw [if_neg (Int32.not_le.mpr h)]
      have e := lsh_step (q := q) (b := 60 * 0) (j := j) (n := n) (by omega)
      rw [show 60 * 0 + (j + 1) = j + 1 by omega, show 60 * 0 + j = j by omega] at e
      rw [bq_56_57, k_1, nI_s1]
      simp (decide := true) (disch := omega) only [Option.bind_some, xasI, xasL, xasR, xin_t, cond_true, cond_false, nI_clamp, k_0, k_1, k_2, k_3, k_4, k_5, k_6, k_40, k_60, k_500, k_10000, pk_mul, nI_add, nI_e0, nI_ee, nI_leI, nI_ltI, xbool0, xbool1, xbn0, xbn1, xb_0, xb_1, reduceIte, one0, Option.isNone_none, ne_eq, not_true_eq_false, not_false_eq_true, if_true, if_false, ite_not, Bool.true_and, Bool.and_true, pR_1 D, pR_2 D, pR_aI D, pR_sI D, pR_aL, pR_sL, e, dec1, nI_s1]
      rw [ih (by omega)]
      conv => rhs; unfold rpos
      rw [if_pos (show key < q.1 20 (60 * 0 + j) by rw [show 60 * 0 + j = j by omega]; exact h)]
    · rw [if_pos (Int32.not_lt.mp h)]
      have e : rpos (fun x => q.1 20 (60 * 0 + x)) key (j + 1) = j + 1 := by
        unfold rpos
        rw [if_neg (show ¬ key < q.1 20 (60 * 0 + j) by rw [show 60 * 0 + j = j by omega]; exact h)]
      rw [e]
      exact c_rput_e D hn hj hq
theorem c_rput {T0 MI a ka va n : Nat} {q : xrho} {key : Int32} {v : Int64} {o3 o4 : Option xV} {M : xM} (D : nd3 a ka va) (hn : n ≤ 60) (hq : q.1 19 0 = nI n) : xZ T0 MI 56 0 [some (vr (some a)), some (vi key), some (vl v), o3, o4] [] (pRq a ka va q M) = some (some (vi (zI (glay q 0 n key v).1)), pRq a ka va (glay q 0 n key v).2 M) := by
  simp (decide := true) (disch := omega) only [bq_56_0, Option.bind_some, xasI, xasL, xasR, xin_t, cond_true, cond_false, nI_clamp, k_0, k_1, k_2, k_3, k_4, k_5, k_6, k_40, k_60, k_500, k_10000, pk_mul, nI_add, nI_e0, nI_ee, nI_leI, nI_ltI, xbool0, xbool1, xbn0, xbn1, xb_0, xb_1, reduceIte, one0, Option.isNone_none, ne_eq, not_true_eq_false, not_false_eq_true, if_true, if_false, ite_not, Bool.true_and, Bool.and_true, pR_c D]
  rw [c_rfind D hn hq]
  unfold glay
  cases hf : rfnd (fun j => q.1 20 (60 * 0 + j)) key 0 n with
  | some j =>
    have hj := rfnd_lt hf
    simp (decide := true) (disch := omega) only [bq_56_5, Option.bind_some, xasI, xasL, xasR, xin_t, cond_true, cond_false, nI_clamp, k_0, k_1, k_2, k_3, k_4, k_5, k_6, k_40, k_60, k_500, k_10000, pk_mul, nI_add, nI_e0, nI_ee, nI_leI, nI_ltI, xbool0, xbool1, xbn0, xbn1, xb_0, xb_1, reduceIte, one0, Option.isNone_none, ne_eq, not_true_eq_false, not_false_eq_true, if_true, if_false, ite_not, Bool.true_and, Bool.and_true]
    rw [show rfndI (some j) (60 * 0) = nI (60 * 0 + j) from rfl, if_neg (nI_pos (by omega))]
    simp (decide := true) (disch := omega) only [bq_56_12, Option.bind_some, xasI, xasL, xasR, xin_t, cond_true, cond_false, nI_clamp, k_0, k_1, k_2, k_3, k_4, k_5, k_6, k_40, k_60, k_500, k_10000, pk_mul, nI_add, nI_e0, nI_ee, nI_leI, nI_ltI, xbool0, xbool1, xbn0, xbn1, xb_0, xb_1, reduceIte, one0, Option.isNone_none, ne_eq, not_true_eq_false, not_false_eq_true, if_true, if_false, ite_not, Bool.true_and, Bool.and_true, pR_2 D, pR_sL]
    rfl
  | none =>
    simp (decide := true) (disch := omega) only [bq_56_5, Option.bind_some, xasI, xasL, xasR, xin_t, cond_true, cond_false, nI_clamp, k_0, k_1, k_2, k_3, k_4, k_5, k_6, k_40, k_60, k_500, k_10000, pk_mul, nI_add, nI_e0, nI_ee, nI_leI, nI_ltI, xbool0, xbool1, xbn0, xbn1, xb_0, xb_1, reduceIte, one0, Option.isNone_none, ne_eq, not_true_eq_false, not_false_eq_true, if_true, if_false, ite_not, Bool.true_and, Bool.and_true]
    rw [show rfndI none (60 * 0) = Int32.ofInt (-1) from rfl, bq_56_22]
    simp (decide := true) (disch := omega) only [Option.bind_some, xasI, xasL, xasR, xin_t, cond_true, cond_false, nI_clamp, k_0, k_1, k_2, k_3, k_4, k_5, k_6, k_40, k_60, k_500, k_10000, pk_mul, nI_add, nI_e0, nI_ee, nI_leI, nI_ltI, xbool0, xbool1, xbn0, xbn1, xb_0, xb_1, reduceIte, one0, Option.isNone_none, ne_eq, not_true_eq_false, not_false_eq_true, if_true, if_false, ite_not, Bool.true_and, Bool.and_true, pR_n D, hq]
    by_cases h : n = 60
    · rw [if_neg (by omega), if_pos h]
      simp (decide := true) (disch := omega) only [bq_56_31, Option.bind_some, xasI, xasL, xasR, xin_t, cond_true, cond_false, nI_clamp, k_0, k_1, k_2, k_3, k_4, k_5, k_6, k_40, k_60, k_500, k_10000, pk_mul, nI_add, nI_e0, nI_ee, nI_leI, nI_ltI, xbool0, xbool1, xbn0, xbn1, xb_0, xb_1, reduceIte, one0, Option.isNone_none, ne_eq, not_true_eq_false, not_false_eq_true, if_true, if_false, ite_not, Bool.true_and, Bool.and_true]
      rfl
    · rw [if_pos (by omega), if_neg h]
      simp (decide := true) (disch := omega) only [bq_56_33, Option.bind_some, xasI, xasL, xasR, xin_t, cond_true, cond_false, nI_clamp, k_0, k_1, k_2, k_3, k_4, k_5, k_6, k_40, k_60, k_500, k_10000, pk_mul, nI_add, nI_e0, nI_ee, nI_leI, nI_ltI, xbool0, xbool1, xbn0, xbn1, xb_0, xb_1, reduceIte, one0, Option.isNone_none, ne_eq, not_true_eq_false, not_false_eq_true, if_true, if_false, ite_not, Bool.true_and, Bool.and_true, pR_n D, hq]
      have := c_rput_l (T0 := T0) (MI := MI) (key := key) (v := v) (M := M) D (show n < 60 by omega) hq n (Nat.le_refl _) (xinv (xinv o3))
      rw [lsh_n] at this
      exact this
theorem c_rdrop_l {T0 MI a ka va n j : Nat} {q : xrho} {M : xM} {o1 : Option xV} (D : nd3 a ka va) (hn : n < 60) (hq : q.1 19 0 = nI (n + 1)) : ∀ m i, j ≤ i → i + m = n → ∀ o2, xZ T0 MI 57 16 [some (vr (some a)), o1, o2, some (vi (nI (i + 1)))] [] (pRq a ka va (dsh q (60 * 0) j i) M) = some (some (vi 1), pRq a ka va (rup (dsh q (60 * 0) j n) 19 0 (nI n)) M) := by
  intro m
  induction m with
  | zero =>
    intro i hji hi o2
    have : i = n := by omega
    subst this
    simp (decide := true) (disch := omega) only [bq_57_16, Option.bind_some, xasI, xasL, xasR, xin_t, cond_true, cond_false, nI_clamp, k_0, k_1, k_2, k_3, k_4, k_5, k_6, k_40, k_60, k_500, k_10000, pk_mul, nI_add, nI_e0, nI_ee, nI_leI, nI_ltI, xbool0, xbool1, xbn0, xbn1, xb_0, xb_1, reduceIte, one0, Option.isNone_none, ne_eq, not_true_eq_false, not_false_eq_true, if_true, if_false, ite_not, Bool.true_and, Bool.and_true, pR_n D, dsh_19, hq]
    rw [if_pos (Nat.le_refl _), bq_57_58, k_1]
    simp (decide := true) (disch := omega) only [Option.bind_some, xasI, xasL, xasR, xin_t, cond_true, cond_false, nI_clamp, k_0, k_1, k_2, k_3, k_4, k_5, k_6, k_40, k_60, k_500, k_10000, pk_mul, nI_add, nI_e0, nI_ee, nI_leI, nI_ltI, xbool0, xbool1, xbn0, xbn1, xb_0, xb_1, reduceIte, one0, Option.isNone_none, ne_eq, not_true_eq_false, not_false_eq_true, if_true, if_false, ite_not, Bool.true_and, Bool.and_true, pR_n D, dsh_19, hq, nI_s1, pR_p D]
    rfl
  | succ m ih =>
    intro i hji hi o2
    have e := dsh_step (q := q) (b := 60 * 0) hji
    rw [show 60 * 0 + (i + 1) = i + 1 by omega, show 60 * 0 + i = i by omega] at e
    simp (decide := true) (disch := omega) only [bq_57_16, Option.bind_some, xasI, xasL, xasR, xin_t, cond_true, cond_false, nI_clamp, k_0, k_1, k_2, k_3, k_4, k_5, k_6, k_40, k_60, k_500, k_10000, pk_mul, nI_add, nI_e0, nI_ee, nI_leI, nI_ltI, xbool0, xbool1, xbn0, xbn1, xb_0, xb_1, reduceIte, one0, Option.isNone_none, ne_eq, not_true_eq_false, not_false_eq_true, if_true, if_false, ite_not, Bool.true_and, Bool.and_true, pR_n D, dsh_19, hq]
    rw [if_neg (by omega), bq_57_24, k_1, nI_s1]
    simp (decide := true) (disch := omega) only [Option.bind_some, xasI, xasL, xasR, xin_t, cond_true, cond_false, nI_clamp, k_0, k_1, k_2, k_3, k_4, k_5, k_6, k_40, k_60, k_500, k_10000, pk_mul, nI_add, nI_e0, nI_ee, nI_leI, nI_ltI, xbool0, xbool1, xbn0, xbn1, xb_0, xb_1, reduceIte, one0, Option.isNone_none, ne_eq, not_true_eq_false, not_false_eq_true, if_true, if_false, ite_not, Bool.true_and, Bool.and_true, pR_1 D, pR_2 D, pR_aI D, pR_sI D, pR_aL, pR_sL, e]
    exact ih (i + 1) (by omega) (by omega) _
theorem c_rdrop {T0 MI a ka va n : Nat} {q : xrho} {key : Int32} {o2 o3 : Option xV} {M : xM} (D : nd3 a ka va) (hn : n ≤ 60) (hq : q.1 19 0 = nI n) : xZ T0 MI 57 0 [some (vr (some a)), some (vi key), o2, o3] [] (pRq a ka va q M) = some (some (vi (zI (rfnd (fun j => q.1 20 (60 * 0 + j)) key 0 n).isSome)), pRq a ka va (gstrike q 0 n key) M) := by
  simp (decide := true) (disch := omega) only [bq_57_0, Option.bind_some, xasI, xasL, xasR, xin_t, cond_true, cond_false, nI_clamp, k_0, k_1, k_2, k_3, k_4, k_5, k_6, k_40, k_60, k_500, k_10000, pk_mul, nI_add, nI_e0, nI_ee, nI_leI, nI_ltI, xbool0, xbool1, xbn0, xbn1, xb_0, xb_1, reduceIte, one0, Option.isNone_none, ne_eq, not_true_eq_false, not_false_eq_true, if_true, if_false, ite_not, Bool.true_and, Bool.and_true, pR_c D]
  rw [c_rfind D hn hq]
  unfold gstrike
  cases hf : rfnd (fun j => q.1 20 (60 * 0 + j)) key 0 n with
  | some j =>
    have hj := rfnd_lt hf
    simp (decide := true) (disch := omega) only [bq_57_5, Option.bind_some, xasI, xasL, xasR, xin_t, cond_true, cond_false, nI_clamp, k_0, k_1, k_2, k_3, k_4, k_5, k_6, k_40, k_60, k_500, k_10000, pk_mul, nI_add, nI_e0, nI_ee, nI_leI, nI_ltI, xbool0, xbool1, xbn0, xbn1, xb_0, xb_1, reduceIte, one0, Option.isNone_none, ne_eq, not_true_eq_false, not_false_eq_true, if_true, if_false, ite_not, Bool.true_and, Bool.and_true]
    rw [show rfndI (some j) (60 * 0) = nI (60 * 0 + j) from rfl, show 60 * 0 + j = j by omega, if_pos (le_0 (by omega)), bq_57_12, k_1, nI_add]
    have hn1 : n - 1 + 1 = n := by omega
    have := c_rdrop_l (T0 := T0) (MI := MI) (M := M) (j := j) (o1 := xinv (some (vi key))) D (show n - 1 < 60 by omega) (by rw [hn1]; exact hq) (n - 1 - j) j (Nat.le_refl _) (by omega) (some (vi (nI j)))
    rw [dsh_0] at this
    rw [this]
    congr 3
    refine xr_ext (fun f x => ?_) (fun f x => ?_)
    · rw [rup_r]
      unfold dsh
      dsimp only
      unfold va_up rup
      dsimp only
      by_cases e : f = 20
      · subst e
        simp [va_up]
      · by_cases e2 : f = 19
        · subst e2
          simp [va_up, upd]
        · simp [va_up, e, e2]
    · rfl
  | none =>
    simp (decide := true) (disch := omega) only [bq_57_5, Option.bind_some, xasI, xasL, xasR, xin_t, cond_true, cond_false, nI_clamp, k_0, k_1, k_2, k_3, k_4, k_5, k_6, k_40, k_60, k_500, k_10000, pk_mul, nI_add, nI_e0, nI_ee, nI_leI, nI_ltI, xbool0, xbool1, xbn0, xbn1, xb_0, xb_1, reduceIte, one0, Option.isNone_none, ne_eq, not_true_eq_false, not_false_eq_true, if_true, if_false, ite_not, Bool.true_and, Bool.and_true]
    simp (decide := true) (disch := omega) only [bq_57_10, Option.bind_some, xasI, xasL, xasR, xin_t, cond_true, cond_false, nI_clamp, k_0, k_1, k_2, k_3, k_4, k_5, k_6, k_40, k_60, k_500, k_10000, pk_mul, nI_add, nI_e0, nI_ee, nI_leI, nI_ltI, xbool0, xbool1, xbn0, xbn1, xb_0, xb_1, reduceIte, one0, Option.isNone_none, ne_eq, not_true_eq_false, not_false_eq_true, if_true, if_false, ite_not, Bool.true_and, Bool.and_true]
    rfl
