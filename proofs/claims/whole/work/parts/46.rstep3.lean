/-! THE REFERENCE'S step, whole -/
def cGs (q : xrho) (h : Nat) : Nat → Nat → Nat
  | _, 0 => 0
  | r, m + 1 => cG q h r + cGs q h (r + 1) m
theorem cS_eq (q : xrho) (h : Nat) : ∀ m r, cS q h r m = (if h = 0 then cBs q r m else 0) + cGs q h r m
  | 0, _ => by unfold cS cGs cBs; split <;> rfl
  | m + 1, r => by
    unfold cS cGs cBs
    rw [cS_eq q h m (r + 1)]
    split <;> omega
theorem gpart_82 (q : xrho) (h r l : Nat) : (gpart q h r l).1 82 0 = nI (l + 1) := gnew_82f q l (nI 4) (q.1 21 (40 * h + r)) (nI h) (nI r) (q.1 18 (40 * h + r) + nI 1)
theorem gga_82 (q : xrho) (h r l was : Nat) : (gga q h r l was).1 82 0 = nI (l + 1) := by
  unfold gga
  rw [ck3_ne (by decide) (by decide), rup_ne _ _ _ _ (by decide), gpart_82]
theorem gends_82 (q : xrho) (h r l : Nat) : (gends q h r l).1 82 0 = nI (l + 1) := by
  unfold gends
  rw [rup_ne _ _ _ _ (by decide), rup_ne _ _ _ _ (by decide), rup_ne _ _ _ _ (by decide), rup_ne _ _ _ _ (by decide), gpart_82]
theorem ggv_82 (q : xrho) (h r l : Nat) (acc : PW) : (ggv q h r l acc).1 82 0 = nI (l + 1) := by
  unfold ggv
  rw [rup_ne _ _ _ _ (by decide), rup_ne _ _ _ _ (by decide), rup_ne _ _ _ _ (by decide), rup_ne _ _ _ _ (by decide), wrP_1, if_neg (by decide), if_neg (by decide), gpart_82]
theorem gends_29 (q : xrho) (h r l p : Nat) : (gends q h r l).1 29 p = if p = 40 * h + r then nI l else q.1 29 p := by
  unfold gends
  rw [rup_ne _ _ _ _ (by decide), rup_ne _ _ _ _ (by decide), rup_i]
  rfl
theorem gends_32 (q : xrho) (h r l p : Nat) : (gends q h r l).1 32 p = if p = 40 * h + r then nI 0 else q.1 32 p := by
  unfold gends
  rw [rup_i]
  rfl
theorem ggv_29 (q : xrho) (h r l p : Nat) (acc : PW) : (ggv q h r l acc).1 29 p = if p = 40 * h + r then nI l else q.1 29 p := by
  unfold ggv
  rw [rup_ne _ _ _ _ (by decide), rup_ne _ _ _ _ (by decide), rup_i]
  rfl
theorem ggv_32 (q : xrho) (h r l p : Nat) (acc : PW) : (ggv q h r l acc).1 32 p = if p = 40 * h + r then nI 0 else q.1 32 p := by
  unfold ggv
  rw [rup_i]
  rfl
theorem xbool_z (b : Bool) : xbool (zI b) = true := by cases b <;> decide
/-- every mark of a parcel is 0 or 1 -/
theorem chL_b {R : RW} {w : Bool} {acc : PW} {key : Int32} (h : ∀ x ∈ acc, xbool x.2.1 = true) : ∀ x ∈ chL R w acc key, xbool x.2.1 = true := by
  intro x hx
  unfold chL at hx
  split at hx
  · exact h x hx
  · rcases List.mem_append.mp hx with hx | hx
    · exact h x hx
    · rw [List.mem_singleton.mp hx]
      exact xbool_z w
theorem foldl_chL_b {R : RW} {w : Bool} : ∀ (s : List Int32) (acc : PW), (∀ x ∈ acc, xbool x.2.1 = true) → ∀ x ∈ s.foldl (chL R w) acc, xbool x.2.1 = true
  | [], _, h => h
  | _ :: s, _, h => foldl_chL_b s _ (chL_b h)
theorem gvA_b (R : RW) (s : List Int32) : ∀ x ∈ gvA R s, xbool x.2.1 = true := foldl_chL_b _ _ (foldl_chL_b _ _ (fun x hx => absurd hx List.not_mem_nil))
theorem wrF_all {P : Int32 → Prop} {f : Nat → Int32} {l : List Int32} {b x : Nat} (hf : P (f x)) (hl : ∀ y ∈ l, P y) : P (wrF f l b x) := by
  unfold wrF
  split
  · cases hx : l[x - b]? with
    | none => exact hf
    | some y => exact hl y (List.mem_of_getElem? hx)
  · exact hf
theorem agv_ok {q : xrho} {L : xLs} {h r : Nat} (hG : okG q) (hh : h < 6) (hr : r < 40) (hl : nu q 82 0 + cG q h r ≤ 1200) : okG (agv q L h r).1 ∧ nu (agv q L h r).1 82 0 = nu q 82 0 + cG q h r ∧ (agv q L h r).1.1 12 = q.1 12 ∧ (∀ p, p ≠ 40 * h + r → (agv q L h r).1.1 15 p = q.1 15 p) := by
  have b := hG.1.2
  have mono : ∀ (z : xrho), z.1 82 0 = nI (nu q 82 0 + 1) → nu q 82 0 + 1 ≤ 1200 → isN z 82 0 1200 ∧ nu z 82 0 = nu q 82 0 + 1 := fun z hz hb => ⟨isN_of hz hb (by omega), nu_of hz (by omega)⟩
  have again : ((q.1 15 (40 * h + r) = nI 2 ∧ q.1 32 (40 * h + r) = 0) ∨ (q.1 15 (40 * h + r) = nI 3 ∧ q.1 33 (40 * h + r) = 0)) → cG q h r = 1 → okG (gga q h r (nu q 82 0) (nu q 29 (40 * h + r))) ∧ nu (gga q h r (nu q 82 0) (nu q 29 (40 * h + r))) 82 0 = nu q 82 0 + cG q h r ∧ (gga q h r (nu q 82 0) (nu q 29 (40 * h + r))).1 12 = q.1 12 ∧ (∀ p, p ≠ 40 * h + r → (gga q h r (nu q 82 0) (nu q 29 (40 * h + r))).1 15 p = q.1 15 p) := by
    intro hc c1
    rw [c1] at hl ⊢
    obtain ⟨m1, m2⟩ := mono (gga q h r (nu q 82 0) (nu q 29 (40 * h + r))) (gga_82 q h r (nu q 82 0) _) hl
    obtain ⟨hw1, hw2⟩ := hG.2.2 (40 * h + r) (by omega) hc
    refine ⟨⟨m1, fun x hx => ?_, fun p hp hp2 => ?_⟩, m2, rfl, fun p _ => rfl⟩
    · show xbool ((ck3 74 76 77 (rup (gpart q h r (nu q 82 0)) 69 (nu q 82 0) (q.1 69 (nu q 29 (40 * h + r)))) (q.1 74) (q.1 76) (q.2 77) (3 * (nu q 82 0)) (3 * nu q 29 (40 * h + r)) 3).1 76 x) = true
      rw [ck3_1, if_pos rfl]
      unfold cpF
      split
      · exact hG.2.1 _ (by omega)
      · exact hG.2.1 x hx
    · have := hG.2.2 p hp hp2
      refine ⟨this.1, ?_⟩
      rw [m2]
      show nu q 29 p < _
      omega
  unfold agv
  by_cases a1 : q.1 15 (40 * h + r) = nI 2
  · have c1 : cG q h r = 1 := by unfold cG; rw [if_pos (Or.inl a1)]
    rw [if_pos a1]
    by_cases a2 : q.1 32 (40 * h + r) = 0
    · rw [if_pos a2]
      exact again (Or.inl ⟨a1, a2⟩) c1
    · rw [if_neg a2, c1]
      rw [c1] at hl
      by_cases a3 : (L.2.1 (40 * h + r)).length = 0
      · rw [if_pos a3]
        obtain ⟨m1, m2⟩ := mono (gends (rup q 15 (40 * h + r) (nI 3)) h r (nu q 82 0)) (gends_82 _ h r (nu q 82 0)) hl
        have r15 : ∀ p, (gends (rup q 15 (40 * h + r) (nI 3)) h r (nu q 82 0)).1 15 p = if p = 40 * h + r then nI 3 else q.1 15 p := fun p => (show _ = (rup q 15 (40 * h + r) (nI 3)).1 15 p from rfl).trans (rup_i q 15 (40 * h + r) (nI 3) p)
        have r29 : ∀ p, (gends (rup q 15 (40 * h + r) (nI 3)) h r (nu q 82 0)).1 29 p = if p = 40 * h + r then nI (nu q 82 0) else q.1 29 p := fun p => gends_29 _ _ _ _ _
        have r32 : ∀ p, (gends (rup q 15 (40 * h + r) (nI 3)) h r (nu q 82 0)).1 32 p = if p = 40 * h + r then nI 0 else q.1 32 p := fun p => gends_32 _ _ _ _ _
        refine ⟨⟨m1, hG.2.1, fun p hp hp2 => ?_⟩, m2, rfl, fun p hp => by rw [r15, if_neg hp]⟩
        rw [m2]
        by_cases e : p = 40 * h + r
        · have e29 := r29 p
          rw [if_pos e] at e29
          exact ⟨isN_of e29 (by omega) (by omega), by rw [nu_of e29 (by omega)]; omega⟩
        · rw [r15, r32, if_neg e, if_neg e] at hp2
          have := hG.2.2 p hp hp2
          have e29 : (gends (rup q 15 (40 * h + r) (nI 3)) h r (nu q 82 0)).1 29 p = nI (nu q 29 p) := by
            rw [r29, if_neg e]
            exact this.1.1
          have b2 := this.1.2
          exact ⟨isN_of e29 (by omega) (by omega), by rw [nu_of e29 (by omega)]; omega⟩
      · rw [if_neg a3]
        obtain ⟨m1, m2⟩ := mono (ggv q h r (nu q 82 0) (gvA (L.1 (40 * h + r)) (L.2.1 (40 * h + r)))) (ggv_82 q h r (nu q 82 0) _) hl
        have r29 : ∀ p, (ggv q h r (nu q 82 0) (gvA (L.1 (40 * h + r)) (L.2.1 (40 * h + r)))).1 29 p = if p = 40 * h + r then nI (nu q 82 0) else q.1 29 p := fun p => ggv_29 _ _ _ _ _ _
        have r32 : ∀ p, (ggv q h r (nu q 82 0) (gvA (L.1 (40 * h + r)) (L.2.1 (40 * h + r)))).1 32 p = if p = 40 * h + r then nI 0 else q.1 32 p := fun p => ggv_32 _ _ _ _ _ _
        refine ⟨⟨m1, fun x hx => ?_, fun p hp hp2 => ?_⟩, m2, rfl, fun p _ => rfl⟩
        · show xbool ((wrP (gpart q h r (nu q 82 0)) (nu q 82 0) (gvA (L.1 (40 * h + r)) (L.2.1 (40 * h + r)))).1 76 x) = true
          rw [wrP_1, if_pos rfl]
          refine wrF_all (P := fun y => xbool y = true) (hG.2.1 x hx) (fun y hy => ?_)
          obtain ⟨w, hw, rfl⟩ := List.mem_map.mp hy
          exact gvA_b _ _ w hw
        · rw [m2]
          by_cases e : p = 40 * h + r
          · have e29 := r29 p
            rw [if_pos e] at e29
            exact ⟨isN_of e29 (by omega) (by omega), by rw [nu_of e29 (by omega)]; omega⟩
          · rw [r32, if_neg e] at hp2
            have := hG.2.2 p hp hp2
            have e29 : (ggv q h r (nu q 82 0) (gvA (L.1 (40 * h + r)) (L.2.1 (40 * h + r)))).1 29 p = nI (nu q 29 p) := by
              rw [r29, if_neg e]
              exact this.1.1
            have b2 := this.1.2
            exact ⟨isN_of e29 (by omega) (by omega), by rw [nu_of e29 (by omega)]; omega⟩
  · rw [if_neg a1]
    by_cases a2 : q.1 15 (40 * h + r) = nI 3
    · have c1 : cG q h r = 1 := by unfold cG; rw [if_pos (Or.inr a2)]
      rw [if_pos a2]
      by_cases a3 : q.1 33 (40 * h + r) = 0
      · rw [if_pos a3]
        exact again (Or.inr ⟨a2, a3⟩) c1
      · rw [if_neg a3, c1]
        rw [c1] at hl
        obtain ⟨m1, m2⟩ := mono (gnew q (nu q 82 0) (nI 6) (nI 0) (nI h) (nI r) (q.1 18 (40 * h + r) + nI 1)) (gnew_82f _ _ _ _ _ _ _) hl
        refine ⟨⟨m1, hG.2.1, fun p hp hp2 => ?_⟩, m2, rfl, fun p _ => rfl⟩
        have := hG.2.2 p hp hp2
        refine ⟨this.1, ?_⟩
        rw [m2]
        show nu q 29 p < _
        omega
    · have c1 : cG q h r = 0 := by unfold cG; rw [if_neg (fun h => h.elim a1 a2)]
      rw [if_neg a2, c1]
      exact ⟨hG, rfl, rfl, fun _ _ => rfl⟩
theorem cGs_f {q z : xrho} {h : Nat} : ∀ m r, (∀ i, r ≤ i → z.1 15 (40 * h + i) = q.1 15 (40 * h + i)) → cGs z h r m = cGs q h r m
  | 0, _, _ => rfl
  | m + 1, r, hz => by
    unfold cGs cG
    rw [cGs_f m (r + 1) (fun i hi => hz i (by omega)), hz r (Nat.le_refl _)]
theorem agvs_ok {h : Nat} (hh : h < 6) : ∀ j r (q : xrho) (L : xLs), r + j ≤ 40 → okG q → nu q 82 0 + cGs q h r j ≤ 1200 → okG (agvs h r j q L).1 ∧ nu (agvs h r j q L).1 82 0 = nu q 82 0 + cGs q h r j ∧ (agvs h r j q L).1.1 12 = q.1 12 ∧ (∀ i, r + j ≤ i → (agvs h r j q L).1.1 15 (40 * h + i) = q.1 15 (40 * h + i))
  | 0, _, _, _, _, hG, _ => ⟨hG, rfl, rfl, fun _ _ => rfl⟩
  | j + 1, r, q, L, hr, hG, hl => by
    unfold cGs at hl ⊢
    unfold agvs
    obtain ⟨a1, a2, a3, a4⟩ := agv_ok (L := L) hG hh (show r < 40 by omega) (by omega)
    have e := cGs_f (z := (agv q L h r).1) (q := q) (h := h) j (r + 1) (fun i hi => a4 _ (by omega))
    obtain ⟨b1, b2, b3, b4⟩ := agvs_ok hh j (r + 1) (agv q L h r).1 (agv q L h r).2 (by omega) a1 (by omega)
    exact ⟨b1, by omega, b3.trans a3, fun i hi => (b4 i (by omega)).trans (a4 _ (by omega))⟩
theorem cGs_mono {q : xrho} {h : Nat} : ∀ j m r, j ≤ m → cGs q h r j ≤ cGs q h r m
  | 0, _, _, _ => Nat.zero_le _
  | j + 1, 0, _, hj => by omega
  | j + 1, m + 1, r, hj => by
    unfold cGs
    have := cGs_mono (q := q) (h := h) j m (r + 1) (by omega)
    omega
theorem cGs_lt {q : xrho} {h : Nat} : ∀ j m r, j < m → cG q h (r + j) = 1 → cGs q h r j < cGs q h r m
  | _, 0, _, hj, _ => by omega
  | 0, m + 1, r, _, hc => by
    unfold cGs
    rw [Nat.add_zero] at hc
    omega
  | j + 1, m + 1, r, hj, hc => by
    unfold cGs
    have := cGs_lt (q := q) (h := h) j m (r + 1) (by omega) (by rw [show r + 1 + j = r + (j + 1) by omega]; exact hc)
    omega
def astB (q : xrho) (h n : Nat) : xrho := if h = 0 then abks 0 n q else q
noncomputable def astep (q : xrho) (L : xLs) (x : Int32) : Int32 × xrho × xLs := match ix x 6 with
  | none => (Int32.ofInt (-1), gref q 1, L)
  | some h => if q.1 0 h = 0 then (Int32.ofInt (-4), gref q 4, L) else if 1200 < nu q 82 0 + cS q h 0 (nu q 12 0) then (Int32.ofInt (-6), gref q 6, L) else (nI (cS q h 0 (nu q 12 0)), agvs h 0 (nu q 12 0) (astB q h (nu q 12 0)) L)
theorem gref_LX {q : xrho} {L : xLs} {k : Nat} (h : LX q L) : LX (gref q k) L := LX_up rfl h
theorem okG_w {q z : xrho} (h : okG q) (h82 : isN z 82 0 1200) (hle : nu q 82 0 ≤ nu z 82 0) (h76 : z.1 76 = q.1 76) (h15 : z.1 15 = q.1 15) (h32 : z.1 32 = q.1 32) (h33 : z.1 33 = q.1 33) (h29 : z.1 29 = q.1 29) : okG z := by
  refine ⟨h82, by rw [h76]; exact h.2.1, fun p hp hc => ?_⟩
  rw [h15, h32, h33] at hc
  have := h.2.2 p hp hc
  unfold isN nu at this ⊢
  rw [h29]
  exact ⟨this.1, Nat.lt_of_lt_of_le this.2 hle⟩
theorem astB_ok {q : xrho} {h n : Nat} (hG : okG q) (hb : nu q 82 0 + (if h = 0 then cBs q 0 n else 0) ≤ 1200) : okG (astB q h n) ∧ nu (astB q h n) 82 0 = nu q 82 0 + (if h = 0 then cBs q 0 n else 0) ∧ (astB q h n).1 12 = q.1 12 ∧ (astB q h n).1 15 = q.1 15 := by
  unfold astB
  by_cases e : h = 0
  · rw [if_pos e] at hb ⊢
    rw [if_pos e]
    have e82 := abks_82 n 0 q (nu q 82 0) hG.1.1 hb
    exact ⟨okG_w hG (isN_of e82 (by omega) (by omega)) (by rw [nu_of e82 (by omega)]; omega) (abks_ne (by omega) (by omega) (by omega) _ _ _) (abks_ne (by omega) (by omega) (by omega) _ _ _) (abks_ne (by omega) (by omega) (by omega) _ _ _) (abks_ne (by omega) (by omega) (by omega) _ _ _) (abks_ne (by omega) (by omega) (by omega) _ _ _), nu_of e82 (by omega), abks_ne (by omega) (by omega) (by omega) _ _ _, abks_ne (by omega) (by omega) (by omega) _ _ _⟩
  · rw [if_neg e, if_neg e]
    exact ⟨hG, rfl, rfl, rfl⟩
theorem c_step {T0 MI B : Nat} {q : xrho} {L : xLs} {x : Int32} {M : xM} {o2 o3 o4 : Option xV} (h0 : LX q L) (h12 : isN q 12 0 40) (hG : okG q) : ∃ q', xZ T0 MI 161 0 [some (vr (some B)), some (vi x), o2, o3, o4] [] (rput B q M) = some (some (vi (astep q L x).1), rput B q' M) ∧ fl2 (astep q L x).2.1 q' ∧ LX q' (astep q L x).2.2 := by
  have b82 := hG.1.2
  have b12 := h12.2
  unfold astep
  rw [bq_161_0, k_6]
  cases hx : ix x 6 with
  | none =>
    refine ⟨gref q 1, ?_, fl2_rf _, gref_LX h0⟩
    rw [c_isIn_n hx]
    simp (decide := true) (disch := omega) only [bq_161_6, rq_161_9, bq_161_14, Option.bind_some, xasI, xasL, xasR, xin_t, cond_true, cond_false, nI_clamp, k_0, k_1, k_2, k_3, k_4, k_5, k_6, k_40, k_60, k_500, k_10000, pk_mul, nI_add, nI_e0, nI_ee, nI_leI, nI_ltI, xbool0, xbool1, xbn0, xbn1, xb_0, xb_1, reduceIte, one0, Option.isNone_none, ne_eq, not_true_eq_false, not_false_eq_true, if_true, if_false, ite_not, Bool.true_and, Bool.and_true, c_refuse (k := 1) (by decide) neg1]
  | some h =>
    obtain ⟨hh, rfl, -⟩ := ix_some (by omega) hx
    rw [c_isIn_s (by omega) hx]
    dsimp only
    by_cases a1 : q.1 0 h = 0
    · rw [if_pos a1]
      refine ⟨gref q 4, ?_, fl2_rf _, gref_LX h0⟩
      simp (decide := true) (disch := omega) only [bq_161_6, rq_161_15, Option.bind_some, xasI, xasL, xasR, xin_t, cond_true, cond_false, nI_clamp, k_0, k_1, k_2, k_3, k_4, k_5, k_6, k_40, k_60, k_500, k_10000, pk_mul, nI_add, nI_e0, nI_ee, nI_leI, nI_ltI, xbool0, xbool1, xbn0, xbn1, xb_0, xb_1, reduceIte, one0, Option.isNone_none, ne_eq, not_true_eq_false, not_false_eq_true, if_true, if_false, ite_not, Bool.true_and, Bool.and_true]
      rw [if_pos a1]
      simp (decide := true) (disch := omega) only [rq_161_24, bq_161_30, Option.bind_some, xasI, xasL, xasR, xin_t, cond_true, cond_false, nI_clamp, k_0, k_1, k_2, k_3, k_4, k_5, k_6, k_40, k_60, k_500, k_10000, pk_mul, nI_add, nI_e0, nI_ee, nI_leI, nI_ltI, xbool0, xbool1, xbn0, xbn1, xb_0, xb_1, reduceIte, one0, Option.isNone_none, ne_eq, not_true_eq_false, not_false_eq_true, if_true, if_false, ite_not, Bool.true_and, Bool.and_true, c_refuse (k := 4) (by decide) neg4]
    · rw [if_neg a1]
      have hcs := cS_le q h (nu q 12 0) 0
      obtain ⟨o3', o4', eA⟩ := c_stepA (T0 := T0) (MI := MI) (B := B) (M := M) hh h12.2 h12.1 (nu q 12 0) 0 (by omega) 0 (by omega) o4
      have e1 : xZ T0 MI 161 6 [some (vr (some B)), some (vi (nI h)), o2, o3, o4] [vi 1] (rput B q M) = xZ T0 MI 161 156 [some (vr (some B)), some (vi (nI h)), some (vi (nI (cS q h 0 (nu q 12 0)))), o3', o4'] [] (rput B q M) := by
        simp (decide := true) (disch := omega) only [bq_161_6, rq_161_15, Option.bind_some, xasI, xasL, xasR, xin_t, cond_true, cond_false, nI_clamp, k_0, k_1, k_2, k_3, k_4, k_5, k_6, k_40, k_60, k_500, k_10000, pk_mul, nI_add, nI_e0, nI_ee, nI_leI, nI_ltI, xbool0, xbool1, xbn0, xbn1, xb_0, xb_1, reduceIte, one0, Option.isNone_none, ne_eq, not_true_eq_false, not_false_eq_true, if_true, if_false, ite_not, Bool.true_and, Bool.and_true]
        rw [if_neg a1]
        rw [bq_161_31, k_0, eA, Nat.zero_add]
      by_cases a2 : 1200 < nu q 82 0 + cS q h 0 (nu q 12 0)
      · rw [if_pos a2]
        refine ⟨gref q 6, ?_, fl2_rf _, gref_LX h0⟩
        simp (decide := true) (disch := omega) only [Option.bind_some, xasI, xasL, xasR, xin_t, cond_true, cond_false, nI_clamp, k_0, k_1, k_2, k_3, k_4, k_5, k_6, k_40, k_60, k_500, k_10000, pk_mul, nI_add, nI_e0, nI_ee, nI_leI, nI_ltI, xbool0, xbool1, xbn0, xbn1, xb_0, xb_1, reduceIte, one0, Option.isNone_none, ne_eq, not_true_eq_false, not_false_eq_true, if_true, if_false, ite_not, Bool.true_and, Bool.and_true, e1]
        simp (decide := true) (disch := omega) only [rq_161_156, Option.bind_some, xasI, xasL, xasR, xin_t, cond_true, cond_false, nI_clamp, k_0, k_1, k_2, k_3, k_4, k_5, k_6, k_40, k_60, k_500, k_10000, pk_mul, nI_add, nI_e0, nI_ee, nI_leI, nI_ltI, xbool0, xbool1, xbn0, xbn1, xb_0, xb_1, reduceIte, one0, Option.isNone_none, ne_eq, not_true_eq_false, not_false_eq_true, if_true, if_false, ite_not, Bool.true_and, Bool.and_true, k_1200, hG.1.1]
        rw [if_neg (by omega)]
        simp (decide := true) (disch := omega) only [rq_161_168, bq_161_174, Option.bind_some, xasI, xasL, xasR, xin_t, cond_true, cond_false, nI_clamp, k_0, k_1, k_2, k_3, k_4, k_5, k_6, k_40, k_60, k_500, k_10000, pk_mul, nI_add, nI_e0, nI_ee, nI_leI, nI_ltI, xbool0, xbool1, xbn0, xbn1, xb_0, xb_1, reduceIte, one0, Option.isNone_none, ne_eq, not_true_eq_false, not_false_eq_true, if_true, if_false, ite_not, Bool.true_and, Bool.and_true, c_refuse (k := 6) (by decide) neg6]
      · rw [if_neg a2]
        rw [cS_eq] at a2
        obtain ⟨g1, g2, g3, g4⟩ := astB_ok (h := h) (n := nu q 12 0) hG (by omega)
        have lB : LX (astB q h (nu q 12 0)) L := by
          unfold astB
          split
          · exact abks_LX _ _ _ h0
          · exact h0
        have eC := cGs_f (q := q) (z := astB q h (nu q 12 0)) (h := h) (nu q 12 0) 0 (fun i _ => by rw [g4])
        have eB : ∃ o3' o4', xZ T0 MI 161 175 [some (vr (some B)), some (vi (nI h)), some (vi (nI (cS q h 0 (nu q 12 0)))), o3', o4'] [] (rput B q M) = xZ T0 MI 161 254 [some (vr (some B)), some (vi (nI h)), some (vi (nI (cS q h 0 (nu q 12 0)))), o3', o4'] [] (rput B (astB q h (nu q 12 0)) M) ∨ True := ⟨none, none, Or.inr trivial⟩
        have eB2 : ∀ o3' o4', ∃ o3'' o4'', xZ T0 MI 161 175 [some (vr (some B)), some (vi (nI h)), some (vi (nI (cS q h 0 (nu q 12 0)))), o3', o4'] [] (rput B q M) = xZ T0 MI 161 254 [some (vr (some B)), some (vi (nI h)), some (vi (nI (cS q h 0 (nu q 12 0)))), o3'', o4''] [] (rput B (astB q h (nu q 12 0)) M) := by
          intro o3' o4'
          unfold astB
          rw [bq_161_175, k_0]
          by_cases e : h = 0
          · subst e
            rw [if_pos rfl] at a2 ⊢
            exact c_stepB h12.2 (nu q 12 0) 0 (by omega) q (nu q 82 0) o4' h12.1 hG.1.1 (by omega)
          · rw [if_neg e]
            by_cases e2 : nu q 12 0 = 0
            · refine ⟨some (vi (nI 0)), o4', ?_⟩
              simp (decide := true) (disch := omega) only [rq_161_177, Option.bind_some, xasI, xasL, xasR, xin_t, cond_true, cond_false, nI_clamp, k_0, k_1, k_2, k_3, k_4, k_5, k_6, k_40, k_60, k_500, k_10000, pk_mul, nI_add, nI_e0, nI_ee, nI_leI, nI_ltI, xbool0, xbool1, xbn0, xbn1, xb_0, xb_1, reduceIte, one0, Option.isNone_none, ne_eq, not_true_eq_false, not_false_eq_true, if_true, if_false, ite_not, Bool.true_and, Bool.and_true, h12.1, e2]
            · refine ⟨some (vi (nI 0)), o4', ?_⟩
              simp (decide := true) (disch := omega) only [rq_161_177, Option.bind_some, xasI, xasL, xasR, xin_t, cond_true, cond_false, nI_clamp, k_0, k_1, k_2, k_3, k_4, k_5, k_6, k_40, k_60, k_500, k_10000, pk_mul, nI_add, nI_e0, nI_ee, nI_leI, nI_ltI, xbool0, xbool1, xbn0, xbn1, xb_0, xb_1, reduceIte, one0, Option.isNone_none, ne_eq, not_true_eq_false, not_false_eq_true, if_true, if_false, ite_not, Bool.true_and, Bool.and_true, h12.1]
              rw [if_neg (by omega), bq_161_185, if_neg (by rw [nI_e0 (by omega)]; exact e)]
        obtain ⟨o3'', o4'', eB3⟩ := eB2 o3' o4'
        have kk : ∀ j, j ≤ nu q 12 0 → okG (agvs h 0 j (astB q h (nu q 12 0)) L).1 ∧ nu (agvs h 0 j (astB q h (nu q 12 0)) L).1 82 0 = nu (astB q h (nu q 12 0)) 82 0 + cGs (astB q h (nu q 12 0)) h 0 j ∧ (agvs h 0 j (astB q h (nu q 12 0)) L).1.1 12 = (astB q h (nu q 12 0)).1 12 ∧ (∀ i, 0 + j ≤ i → (agvs h 0 j (astB q h (nu q 12 0)) L).1.1 15 (40 * h + i) = (astB q h (nu q 12 0)).1 15 (40 * h + i)) := fun j hj => agvs_ok hh j 0 _ L (by omega) g1 (by
          have := cGs_mono (q := astB q h (nu q 12 0)) (h := h) j (nu q 12 0) 0 hj
          omega)
        have n12 : (astB q h (nu q 12 0)).1 12 0 = nI (nu q 12 0) := by rw [g3]; exact h12.1
        obtain ⟨q', eS, fS, lS⟩ := c_stepC (T0 := T0) (MI := MI) (B := B) (M := M) (x2 := nI (cS q h 0 (nu q 12 0))) hh h12.2 (nu q 12 0) 0 (by omega) (astB q h (nu q 12 0)) (astB q h (nu q 12 0)) L o4'' (fl2_rf _) lB n12 (fun j hj => ⟨(kk j hj).1, by rw [(kk j hj).2.2.1]; exact n12⟩) (fun j hj => by
          by_cases c1 : cG (astB q h (nu q 12 0)) h (0 + j) = 1
          · left
            rw [(kk j (by omega)).2.1]
            have := cGs_lt (q := astB q h (nu q 12 0)) (h := h) j (nu q 12 0) 0 hj c1
            omega
          · right
            unfold cG at c1
            exact ⟨fun e => c1 (by rw [if_pos (Or.inl e)]), fun e => c1 (by rw [if_pos (Or.inr e)])⟩) (fun j i hj hi => (kk j hj).2.2.2 i hi)
        refine ⟨q', ?_, fS, lS⟩
        simp (decide := true) (disch := omega) only [Option.bind_some, xasI, xasL, xasR, xin_t, cond_true, cond_false, nI_clamp, k_0, k_1, k_2, k_3, k_4, k_5, k_6, k_40, k_60, k_500, k_10000, pk_mul, nI_add, nI_e0, nI_ee, nI_leI, nI_ltI, xbool0, xbool1, xbn0, xbn1, xb_0, xb_1, reduceIte, one0, Option.isNone_none, ne_eq, not_true_eq_false, not_false_eq_true, if_true, if_false, ite_not, Bool.true_and, Bool.and_true, e1]
        simp (decide := true) (disch := omega) only [rq_161_156, Option.bind_some, xasI, xasL, xasR, xin_t, cond_true, cond_false, nI_clamp, k_0, k_1, k_2, k_3, k_4, k_5, k_6, k_40, k_60, k_500, k_10000, pk_mul, nI_add, nI_e0, nI_ee, nI_leI, nI_ltI, xbool0, xbool1, xbn0, xbn1, xb_0, xb_1, reduceIte, one0, Option.isNone_none, ne_eq, not_true_eq_false, not_false_eq_true, if_true, if_false, ite_not, Bool.true_and, Bool.and_true, k_1200, hG.1.1]
        rw [if_pos (by rw [cS_eq]; omega), eB3, bq_161_254, k_0]
        exact eS
