/-! SOUNDNESS: arrays, makings, casts, constants -/
theorem xty_R {t : Nat} (h : xtR t = true) : xty t = .object (xaC t) ∧ 3 ≤ t ∧ t < 7 := by
  simp only [xtR, Bool.and_eq_true] at h
  have h1 := Nat.le_of_ble_eq_true h.1
  have h2 := Nat.le_of_ble_eq_true h.2
  match t, h1, h2 with
  | 3, _, _ => exact ⟨rfl, by decide, by decide⟩
  | 4, _, _ => exact ⟨rfl, by decide, by decide⟩
  | 5, _, _ => exact ⟨rfl, by decide, by decide⟩
  | 6, _, _ => exact ⟨rfl, by decide, by decide⟩
  | k + 7, _, h2 => omega
theorem xaI_some {M : xM} {a : Nat} {i x : Int32} (h : xaI M a i = some x) : ∃ t n f, M.2.2 a = .inl (t, n, .inl f) ∧ (t = 0 ∨ t = 9) ∧ xin i n = true ∧ x = f i.toNatClampNeg := by
  unfold xaI at h
  split at h
  · rename_i t n f he
    obtain ⟨h1, h2⟩ := xcond h
    simp only [Bool.and_eq_true, Bool.or_eq_true] at h1
    exact ⟨t, n, f, he, h1.1.imp Nat.eq_of_beq_eq_true Nat.eq_of_beq_eq_true, h1.2, (Option.some.inj h2).symm⟩
  · cases h
theorem xaZ_some {M : xM} {a : Nat} {i x : Int32} (h : xaZ M a i = some x) : ∃ n f, M.2.2 a = .inl (2, n, .inl f) ∧ xin i n = true ∧ x = f i.toNatClampNeg := by
  unfold xaZ at h
  split at h
  · rename_i t n f he
    obtain ⟨h1, h2⟩ := xcond h
    simp only [Bool.and_eq_true] at h1
    have e := Nat.eq_of_beq_eq_true h1.1
    subst e
    exact ⟨n, f, he, h1.2, (Option.some.inj h2).symm⟩
  · cases h
theorem xaL_some {M : xM} {a : Nat} {i : Int32} {x : Int64} (h : xaL M a i = some x) : ∃ n f, M.2.2 a = .inl (1, n, .inr (.inl f)) ∧ xin i n = true ∧ x = f i.toNatClampNeg := by
  unfold xaL at h
  split at h
  · rename_i t n f he
    obtain ⟨h1, h2⟩ := xcond h
    simp only [Bool.and_eq_true] at h1
    have e := Nat.eq_of_beq_eq_true h1.1
    subst e
    exact ⟨n, f, he, h1.2, (Option.some.inj h2).symm⟩
  · cases h
theorem xaR_some {M : xM} {a : Nat} {i : Int32} {x : Option Nat} (h : xaR M a i = some x) : ∃ t n f, M.2.2 a = .inl (t, n, .inr (.inr f)) ∧ xtR t = true ∧ xin i n = true ∧ x = f i.toNatClampNeg := by
  unfold xaR at h
  split at h
  · rename_i t n f he
    obtain ⟨h1, h2⟩ := xcond h
    simp only [Bool.and_eq_true] at h1
    exact ⟨t, n, f, he, h1.1, h1.2, (Option.some.inj h2).symm⟩
  · cases h
theorem xsI_some {M M1 : xM} {a : Nat} {i x : Int32} (h : xsI M a i x = some M1) : ∃ n f, M.2.2 a = .inl (0, n, .inl f) ∧ xin i n = true ∧ M1 = xset M a (.inl (0, n, .inl (upd f i.toNatClampNeg x))) := by
  unfold xsI at h
  split at h
  · rename_i t n f he
    obtain ⟨h1, h2⟩ := xcond h
    simp only [Bool.and_eq_true] at h1
    have e := Nat.eq_of_beq_eq_true h1.1
    subst e
    exact ⟨n, f, he, h1.2, (Option.some.inj h2).symm⟩
  · cases h
theorem xsZ_some {M M1 : xM} {a : Nat} {i x : Int32} (h : xsZ M a i x = some M1) : ∃ n f, M.2.2 a = .inl (2, n, .inl f) ∧ xin i n = true ∧ xbool x = true ∧ M1 = xset M a (.inl (2, n, .inl (upd f i.toNatClampNeg x))) := by
  unfold xsZ at h
  split at h
  · rename_i t n f he
    obtain ⟨h1, h2⟩ := xcond h
    simp only [Bool.and_eq_true] at h1
    have e := Nat.eq_of_beq_eq_true h1.1
    subst e
    exact ⟨n, f, he, h1.2.1, h1.2.2, (Option.some.inj h2).symm⟩
  · cases h
theorem xsL_some {M M1 : xM} {a : Nat} {i : Int32} {x : Int64} (h : xsL M a i x = some M1) : ∃ n f, M.2.2 a = .inl (1, n, .inr (.inl f)) ∧ xin i n = true ∧ M1 = xset M a (.inl (1, n, .inr (.inl (vp_updL f i.toNatClampNeg x)))) := by
  unfold xsL at h
  split at h
  · rename_i t n f he
    obtain ⟨h1, h2⟩ := xcond h
    simp only [Bool.and_eq_true] at h1
    have e := Nat.eq_of_beq_eq_true h1.1
    subst e
    exact ⟨n, f, he, h1.2, (Option.some.inj h2).symm⟩
  · cases h
theorem xsR_some {M M1 : xM} {a : Nat} {i : Int32} {x : Option Nat} (h : xsR M a i x = some M1) : ∃ t n f, M.2.2 a = .inl (t, n, .inr (.inr f)) ∧ xtR t = true ∧ xin i n = true ∧ xmayR M t x = true ∧ M1 = xset M a (.inl (t, n, .inr (.inr (va_up f i.toNatClampNeg x)))) := by
  unfold xsR at h
  split at h
  · rename_i t n f he
    obtain ⟨h1, h2⟩ := xcond h
    simp only [Bool.and_eq_true] at h1
    exact ⟨t, n, f, he, h1.1, h1.2.1, h1.2.2, (Option.some.inj h2).symm⟩
  · cases h
theorem xmayR_some {M : xM} {t y : Nat} (h : xmayR M t (some y) = true) : ∃ ci fs, M.2.2 y = .inr (ci, fs) ∧ ci < 14 ∧ (t = 3 ∨ xcn ci = xaC t) := by
  unfold xmayR at h
  dsimp only at h
  cases hc : xclsO M y with
  | none => rw [hc] at h; cases h
  | some ci =>
    rw [hc] at h
    dsimp only at h
    unfold xclsO at hc
    split at hc
    · rename_i c2 fs he
      cases hc
      simp only [xfitR, Bool.and_eq_true, Bool.or_eq_true] at h
      refine ⟨_, fs, he, Nat.le_of_ble_eq_true h.1, ?_⟩
      rcases h.2 with h | ⟨h, h2⟩ | ⟨h, h2⟩ | ⟨h, h2⟩
      · exact Or.inl (Nat.eq_of_beq_eq_true h)
      · have := Nat.eq_of_beq_eq_true h
        have := Nat.eq_of_beq_eq_true h2
        subst_vars
        exact Or.inr rfl
      · have := Nat.eq_of_beq_eq_true h
        have := Nat.eq_of_beq_eq_true h2
        subst_vars
        exact Or.inr rfl
      · have := Nat.eq_of_beq_eq_true h
        have := Nat.eq_of_beq_eq_true h2
        subst_vars
        exact Or.inr rfl
    · cases hc
theorem xmayR_any {s : State} {D : va_G} {ac : Nat → ClassId} {N0 T0 MI bS LS : Nat} {xs : Nat → Int32} {M : xM} {H : Heap} {t y : Nat} (hC : xCx D ac N0 T0 MI bS LS xs s) (hR : xRep D ac N0 (xFo T0 bS LS xs) M H) (h : xmayR M t (some y) = true) : va_Any (xaC t) s H y := by
  obtain ⟨ci, fs, he, hci, ht⟩ := xmayR_some h
  obtain ⟨ho1, ho2⟩ := hR.own he hci
  obtain ⟨k, hkk⟩ := xWs_at (ac := ac) ho1 ho2
  rw [he] at hkk
  refine va_rAny hC.2.1 hR.2.2.1 hkk (xcl_at hci) (fun comp c0 h1 h2 => ?_)
  rcases ht with rfl | ht
  · obtain ⟨c1, t1, f1, f2, f3⟩ := Cond.castable_spec (va_Nw.use (A := #[]) rfl (hC.2.2.2.1 ci hci))
    cases f1.symm.trans h2
    cases f2.symm.trans h1
    exact f3
  · dsimp only at h2
    rw [← ht] at h1
    cases h1.symm.trans h2
    have hc := (hC.2.1.1 ci _ (xcl_at hci)).2
    cases hc.1.symm.trans h2
    exact va_assign hc
theorem xs_iaload {p : Program} {l : Launch} {e : Env} {R : Room} {s : State} {m : MethodId} {args : Array Value} {below : List Frame} {meth : Method} {c : Code} {Q : State → Prop} {D : va_G} {ac : Nat → ClassId} {N0 T0 MI bS LS : Nat} {xs : Nat → Int32} {K : xK} {mi pc : Nat} {lv : xL} {st : List xV} {M M0 M' : xM} {v : Option xV} {a b3 c3 : Nat} (hF : xFr p R s m args meth c D ac N0 T0 MI bS LS xs mi) (hd : decode (xbytes mi) pc = .ok (.iaload, xlen (.iaload))) (hk : xlks mi pc (.iaload) a b3 c3 = true) (IH : ∀ pc lv st M, K mi pc lv st M = some (v, M') → xWd p l e R s m args below meth c Q D ac N0 T0 bS LS xs mi M0 pc lv st M) (hs0 : s.heap.size = M0.1) (hRc : M'.1 - M0.1 ≤ R.cells) (hRs : M'.2.1 - M0.2.1 ≤ R.slots) (hm : xMono K) (h : xexec T0 MI K mi pc lv st M (.iaload) a b3 c3 = some (v, M')) : xWd p l e R s m args below meth c Q D ac N0 T0 bS LS xs mi M0 pc lv st M := by
  obtain ⟨hx, hb, hml, hown, hts, hC, hnm, hfr, hlo⟩ := hF
  obtain ⟨pp, i, r, rfl, h2⟩ := xpA_some h
  obtain ⟨q, rfl, h3⟩ := xbind h2
  obtain ⟨x, h4, h5⟩ := xbind h3
  obtain ⟨t, n, f, he, ht, hin, rfl⟩ := xaI_some h4
  intro H locs ls hl hR hS hm1 hm2
  rcases ht with rfl | rfl
  · obtain ⟨ho1, ho2⟩ := hR.ownA he (by decide) (xin_pos hin)
    obtain ⟨k, hkk⟩ := xWs_at (ac := ac) ho1 ho2
    rw [he] at hkk
    exact va_iald hx hb hC.2.1 hR.2.2.1 k 0 hkk (xtys_at (ac := ac) (t := 0) (by decide)) (xin_in hin) hd (IH _ _ _ _ h5 H locs ls hl hR hS hm1 hm2)
  · rcases hR.arr he with ⟨-, -, h9⟩ | ⟨-, -, h9, -⟩ | ⟨g1, rfl, -, rfl, g2⟩
    · omega
    · omega
    · cases g2
      obtain ⟨-, -, hX⟩ := hC.2.2.2.2.2.2.2.2
      have h0 := hC.1
      exact va_sld hx hb hX (show q < s.heap.size by omega) (A := xAf N0) (show ¬ N0 ≤ q by omega) hS (xin_in hin) hd (IH _ _ _ _ h5 H locs ls hl hR hS hm1 hm2)
theorem xs_baload {p : Program} {l : Launch} {e : Env} {R : Room} {s : State} {m : MethodId} {args : Array Value} {below : List Frame} {meth : Method} {c : Code} {Q : State → Prop} {D : va_G} {ac : Nat → ClassId} {N0 T0 MI bS LS : Nat} {xs : Nat → Int32} {K : xK} {mi pc : Nat} {lv : xL} {st : List xV} {M M0 M' : xM} {v : Option xV} {a b3 c3 : Nat} (hF : xFr p R s m args meth c D ac N0 T0 MI bS LS xs mi) (hd : decode (xbytes mi) pc = .ok (.baload, xlen (.baload))) (hk : xlks mi pc (.baload) a b3 c3 = true) (IH : ∀ pc lv st M, K mi pc lv st M = some (v, M') → xWd p l e R s m args below meth c Q D ac N0 T0 bS LS xs mi M0 pc lv st M) (hs0 : s.heap.size = M0.1) (hRc : M'.1 - M0.1 ≤ R.cells) (hRs : M'.2.1 - M0.2.1 ≤ R.slots) (hm : xMono K) (h : xexec T0 MI K mi pc lv st M (.baload) a b3 c3 = some (v, M')) : xWd p l e R s m args below meth c Q D ac N0 T0 bS LS xs mi M0 pc lv st M := by
  obtain ⟨hx, hb, hml, hown, hts, hC, hnm, hfr, hlo⟩ := hF
  obtain ⟨pp, i, r, rfl, h2⟩ := xpA_some h
  obtain ⟨q, rfl, h3⟩ := xbind h2
  obtain ⟨x, h4, h5⟩ := xbind h3
  obtain ⟨n, f, he, hin, rfl⟩ := xaZ_some h4
  intro H locs ls hl hR hS hm1 hm2
  obtain ⟨ho1, ho2⟩ := hR.ownA he (by decide) (xin_pos hin)
  obtain ⟨k, hkk⟩ := xWs_at (ac := ac) ho1 ho2
  rw [he] at hkk
  exact va_zald hx hb hC.2.1 hR.2.2.1 k 2 hkk (xtys_at (ac := ac) (t := 2) (by decide)) (xin_in hin) hd (IH _ _ _ _ h5 H locs ls hl hR hS hm1 hm2)
theorem xs_laload {p : Program} {l : Launch} {e : Env} {R : Room} {s : State} {m : MethodId} {args : Array Value} {below : List Frame} {meth : Method} {c : Code} {Q : State → Prop} {D : va_G} {ac : Nat → ClassId} {N0 T0 MI bS LS : Nat} {xs : Nat → Int32} {K : xK} {mi pc : Nat} {lv : xL} {st : List xV} {M M0 M' : xM} {v : Option xV} {a b3 c3 : Nat} (hF : xFr p R s m args meth c D ac N0 T0 MI bS LS xs mi) (hd : decode (xbytes mi) pc = .ok (.laload, xlen (.laload))) (hk : xlks mi pc (.laload) a b3 c3 = true) (IH : ∀ pc lv st M, K mi pc lv st M = some (v, M') → xWd p l e R s m args below meth c Q D ac N0 T0 bS LS xs mi M0 pc lv st M) (hs0 : s.heap.size = M0.1) (hRc : M'.1 - M0.1 ≤ R.cells) (hRs : M'.2.1 - M0.2.1 ≤ R.slots) (hm : xMono K) (h : xexec T0 MI K mi pc lv st M (.laload) a b3 c3 = some (v, M')) : xWd p l e R s m args below meth c Q D ac N0 T0 bS LS xs mi M0 pc lv st M := by
  obtain ⟨hx, hb, hml, hown, hts, hC, hnm, hfr, hlo⟩ := hF
  obtain ⟨pp, i, r, rfl, h2⟩ := xpA_some h
  obtain ⟨q, rfl, h3⟩ := xbind h2
  obtain ⟨x, h4, h5⟩ := xbind h3
  obtain ⟨n, f, he, hin, rfl⟩ := xaL_some h4
  intro H locs ls hl hR hS hm1 hm2
  obtain ⟨ho1, ho2⟩ := hR.ownA he (by decide) (xin_pos hin)
  obtain ⟨k, hkk⟩ := xWs_at (ac := ac) ho1 ho2
  rw [he] at hkk
  exact va_lald hx hb hC.2.1 hR.2.2.1 k 1 hkk (xtys_at (ac := ac) (t := 1) (by decide)) (xin_in hin) hd (IH _ _ _ _ h5 H locs ls hl hR hS hm1 hm2)
theorem xs_aaload {p : Program} {l : Launch} {e : Env} {R : Room} {s : State} {m : MethodId} {args : Array Value} {below : List Frame} {meth : Method} {c : Code} {Q : State → Prop} {D : va_G} {ac : Nat → ClassId} {N0 T0 MI bS LS : Nat} {xs : Nat → Int32} {K : xK} {mi pc : Nat} {lv : xL} {st : List xV} {M M0 M' : xM} {v : Option xV} {a b3 c3 : Nat} (hF : xFr p R s m args meth c D ac N0 T0 MI bS LS xs mi) (hd : decode (xbytes mi) pc = .ok (.aaload, xlen (.aaload))) (hk : xlks mi pc (.aaload) a b3 c3 = true) (IH : ∀ pc lv st M, K mi pc lv st M = some (v, M') → xWd p l e R s m args below meth c Q D ac N0 T0 bS LS xs mi M0 pc lv st M) (hs0 : s.heap.size = M0.1) (hRc : M'.1 - M0.1 ≤ R.cells) (hRs : M'.2.1 - M0.2.1 ≤ R.slots) (hm : xMono K) (h : xexec T0 MI K mi pc lv st M (.aaload) a b3 c3 = some (v, M')) : xWd p l e R s m args below meth c Q D ac N0 T0 bS LS xs mi M0 pc lv st M := by
  obtain ⟨hx, hb, hml, hown, hts, hC, hnm, hfr, hlo⟩ := hF
  obtain ⟨pp, i, r, rfl, h2⟩ := xpA_some h
  obtain ⟨q, rfl, h3⟩ := xbind h2
  obtain ⟨x, h4, h5⟩ := xbind h3
  obtain ⟨t, n, f, he, ht, hin, rfl⟩ := xaR_some h4
  obtain ⟨hty, ht1, ht2⟩ := xty_R ht
  intro H locs ls hl hR hS hm1 hm2
  obtain ⟨ho1, ho2⟩ := hR.ownA he (by omega) (xin_pos hin)
  obtain ⟨k, hkk⟩ := xWs_at (ac := ac) ho1 ho2
  rw [he] at hkk
  exact va_aldq hx hb hC.2.1 hR.2.2.1 k t hkk (by rw [xtys_at (ac := ac) ht2, hty]) (xin_in hin) hd (IH _ _ _ _ h5 H locs ls hl hR hS hm1 hm2)
theorem xs_iastore {p : Program} {l : Launch} {e : Env} {R : Room} {s : State} {m : MethodId} {args : Array Value} {below : List Frame} {meth : Method} {c : Code} {Q : State → Prop} {D : va_G} {ac : Nat → ClassId} {N0 T0 MI bS LS : Nat} {xs : Nat → Int32} {K : xK} {mi pc : Nat} {lv : xL} {st : List xV} {M M0 M' : xM} {v : Option xV} {a b3 c3 : Nat} (hF : xFr p R s m args meth c D ac N0 T0 MI bS LS xs mi) (hd : decode (xbytes mi) pc = .ok (.iastore, xlen (.iastore))) (hk : xlks mi pc (.iastore) a b3 c3 = true) (IH : ∀ pc lv st M, K mi pc lv st M = some (v, M') → xWd p l e R s m args below meth c Q D ac N0 T0 bS LS xs mi M0 pc lv st M) (hs0 : s.heap.size = M0.1) (hRc : M'.1 - M0.1 ≤ R.cells) (hRs : M'.2.1 - M0.2.1 ≤ R.slots) (hm : xMono K) (h : xexec T0 MI K mi pc lv st M (.iastore) a b3 c3 = some (v, M')) : xWd p l e R s m args below meth c Q D ac N0 T0 bS LS xs mi M0 pc lv st M := by
  obtain ⟨hx, hb, hml, hown, hts, hC, hnm, hfr, hlo⟩ := hF
  obtain ⟨x, r0, rfl, h1⟩ := xp1I_some h
  obtain ⟨pp, i, r, rfl, h2⟩ := xpA_some h1
  obtain ⟨q, rfl, h3⟩ := xbind h2
  obtain ⟨M1, h4, h5⟩ := xbind h3
  obtain ⟨n, f, he, hin, rfl⟩ := xsI_some h4
  intro H locs ls hl hR hS hm1 hm2
  obtain ⟨ho1, ho2⟩ := hR.ownA he (by decide) (xin_pos hin)
  obtain ⟨k, hkk⟩ := xWs_at (ac := ac) ho1 ho2
  have hgo : ∀ (H1 : Heap) (locs1 : List Loc), va_P D xcl ((xWs ac N0 M).set k (q, xtr ac (.inl (0, n, .inl (upd f i.toNatClampNeg x))))) H1 → va_D (xAf N0) ((xWs ac N0 M).set k (q, xtr ac (.inl (0, n, .inl (upd f i.toNatClampNeg x))))) → va_S (xAf N0) s.heap H1 locs1 → W p l e R s m args below meth c H1 locs1 (M.1 - M0.1) (M.2.1 - M0.2.1) Q (F0 m (pc + 1) ls (r.map xval)) := by
    intro H1 locs1 hP1 hD1 hS1
    rw [xWs_set ho1 ho2 hkk] at hP1
    exact xW_rep (M1 := xset M q (.inl (0, n, .inl (upd f i.toNatClampNeg x)))) hP1 hS1 hC.1 hs0 hm1 (xset_4 hR.2.2.2.1 ho1) (xset_5 hR.2.2.2.2.1 ho2) (xset_6 hR.2.2.2.2.2 (show 0 < 7 by decide)) (fun hR1 => IH _ _ _ _ h5 H1 locs1 ls hl hR1 hS1 hm1 hm2)
  rw [he] at hkk
  exact va_iast hx hb hC.2.1 hR.2.2.1 xWs_D hS k 0 hkk (xtys_at (ac := ac) (t := 0) (by decide)) (xin_in hin) hd hgo
theorem xs_lastore {p : Program} {l : Launch} {e : Env} {R : Room} {s : State} {m : MethodId} {args : Array Value} {below : List Frame} {meth : Method} {c : Code} {Q : State → Prop} {D : va_G} {ac : Nat → ClassId} {N0 T0 MI bS LS : Nat} {xs : Nat → Int32} {K : xK} {mi pc : Nat} {lv : xL} {st : List xV} {M M0 M' : xM} {v : Option xV} {a b3 c3 : Nat} (hF : xFr p R s m args meth c D ac N0 T0 MI bS LS xs mi) (hd : decode (xbytes mi) pc = .ok (.lastore, xlen (.lastore))) (hk : xlks mi pc (.lastore) a b3 c3 = true) (IH : ∀ pc lv st M, K mi pc lv st M = some (v, M') → xWd p l e R s m args below meth c Q D ac N0 T0 bS LS xs mi M0 pc lv st M) (hs0 : s.heap.size = M0.1) (hRc : M'.1 - M0.1 ≤ R.cells) (hRs : M'.2.1 - M0.2.1 ≤ R.slots) (hm : xMono K) (h : xexec T0 MI K mi pc lv st M (.lastore) a b3 c3 = some (v, M')) : xWd p l e R s m args below meth c Q D ac N0 T0 bS LS xs mi M0 pc lv st M := by
  obtain ⟨hx, hb, hml, hown, hts, hC, hnm, hfr, hlo⟩ := hF
  obtain ⟨x, r0, rfl, h1⟩ := xp1L_some h
  obtain ⟨pp, i, r, rfl, h2⟩ := xpA_some h1
  obtain ⟨q, rfl, h3⟩ := xbind h2
  obtain ⟨M1, h4, h5⟩ := xbind h3
  obtain ⟨n, f, he, hin, rfl⟩ := xsL_some h4
  intro H locs ls hl hR hS hm1 hm2
  obtain ⟨ho1, ho2⟩ := hR.ownA he (by decide) (xin_pos hin)
  obtain ⟨k, hkk⟩ := xWs_at (ac := ac) ho1 ho2
  have hgo : ∀ (H1 : Heap) (locs1 : List Loc), va_P D xcl ((xWs ac N0 M).set k (q, xtr ac (.inl (1, n, .inr (.inl (vp_updL f i.toNatClampNeg x)))))) H1 → va_D (xAf N0) ((xWs ac N0 M).set k (q, xtr ac (.inl (1, n, .inr (.inl (vp_updL f i.toNatClampNeg x)))))) → va_S (xAf N0) s.heap H1 locs1 → W p l e R s m args below meth c H1 locs1 (M.1 - M0.1) (M.2.1 - M0.2.1) Q (F0 m (pc + 1) ls (r.map xval)) := by
    intro H1 locs1 hP1 hD1 hS1
    rw [xWs_set ho1 ho2 hkk] at hP1
    exact xW_rep (M1 := xset M q (.inl (1, n, .inr (.inl (vp_updL f i.toNatClampNeg x))))) hP1 hS1 hC.1 hs0 hm1 (xset_4 hR.2.2.2.1 ho1) (xset_5 hR.2.2.2.2.1 ho2) (xset_6 hR.2.2.2.2.2 (show 1 < 7 by decide)) (fun hR1 => IH _ _ _ _ h5 H1 locs1 ls hl hR1 hS1 hm1 hm2)
  rw [he] at hkk
  exact va_last hx hb hC.2.1 hR.2.2.1 xWs_D hS k 1 hkk (xtys_at (ac := ac) (t := 1) (by decide)) (xin_in hin) hd hgo
theorem xs_bastore {p : Program} {l : Launch} {e : Env} {R : Room} {s : State} {m : MethodId} {args : Array Value} {below : List Frame} {meth : Method} {c : Code} {Q : State → Prop} {D : va_G} {ac : Nat → ClassId} {N0 T0 MI bS LS : Nat} {xs : Nat → Int32} {K : xK} {mi pc : Nat} {lv : xL} {st : List xV} {M M0 M' : xM} {v : Option xV} {a b3 c3 : Nat} (hF : xFr p R s m args meth c D ac N0 T0 MI bS LS xs mi) (hd : decode (xbytes mi) pc = .ok (.bastore, xlen (.bastore))) (hk : xlks mi pc (.bastore) a b3 c3 = true) (IH : ∀ pc lv st M, K mi pc lv st M = some (v, M') → xWd p l e R s m args below meth c Q D ac N0 T0 bS LS xs mi M0 pc lv st M) (hs0 : s.heap.size = M0.1) (hRc : M'.1 - M0.1 ≤ R.cells) (hRs : M'.2.1 - M0.2.1 ≤ R.slots) (hm : xMono K) (h : xexec T0 MI K mi pc lv st M (.bastore) a b3 c3 = some (v, M')) : xWd p l e R s m args below meth c Q D ac N0 T0 bS LS xs mi M0 pc lv st M := by
  obtain ⟨hx, hb, hml, hown, hts, hC, hnm, hfr, hlo⟩ := hF
  obtain ⟨x, r0, rfl, h1⟩ := xp1I_some h
  obtain ⟨pp, i, r, rfl, h2⟩ := xpA_some h1
  obtain ⟨q, rfl, h3⟩ := xbind h2
  obtain ⟨M1, h4, h5⟩ := xbind h3
  obtain ⟨n, f, he, hin, hbo, rfl⟩ := xsZ_some h4
  have hna : vp_nar .boolean x = x := by
    simp only [xbool, Bool.or_eq_true, decide_eq_true_eq] at hbo
    rcases hbo with rfl | rfl <;> decide
  intro H locs ls hl hR hS hm1 hm2
  obtain ⟨ho1, ho2⟩ := hR.ownA he (by decide) (xin_pos hin)
  obtain ⟨k, hkk⟩ := xWs_at (ac := ac) ho1 ho2
  have hgo : ∀ (H1 : Heap) (locs1 : List Loc), va_P D xcl ((xWs ac N0 M).set k (q, xtr ac (.inl (2, n, .inl (upd f i.toNatClampNeg x))))) H1 → va_D (xAf N0) ((xWs ac N0 M).set k (q, xtr ac (.inl (2, n, .inl (upd f i.toNatClampNeg x))))) → va_S (xAf N0) s.heap H1 locs1 → W p l e R s m args below meth c H1 locs1 (M.1 - M0.1) (M.2.1 - M0.2.1) Q (F0 m (pc + 1) ls (r.map xval)) := by
    intro H1 locs1 hP1 hD1 hS1
    rw [xWs_set ho1 ho2 hkk] at hP1
    exact xW_rep (M1 := xset M q (.inl (2, n, .inl (upd f i.toNatClampNeg x)))) hP1 hS1 hC.1 hs0 hm1 (xset_4 hR.2.2.2.1 ho1) (xset_5 hR.2.2.2.2.1 ho2) (xset_6 hR.2.2.2.2.2 (show 2 < 7 by decide)) (fun hR1 => IH _ _ _ _ h5 H1 locs1 ls hl hR1 hS1 hm1 hm2)
  rw [he] at hkk
  exact va_zast hx hb hC.2.1 hR.2.2.1 xWs_D hS k 2 hkk (xtys_at (ac := ac) (t := 2) (by decide)) (xin_in hin) hd (by rw [hna]; exact hgo)
theorem xs_aastore {p : Program} {l : Launch} {e : Env} {R : Room} {s : State} {m : MethodId} {args : Array Value} {below : List Frame} {meth : Method} {c : Code} {Q : State → Prop} {D : va_G} {ac : Nat → ClassId} {N0 T0 MI bS LS : Nat} {xs : Nat → Int32} {K : xK} {mi pc : Nat} {lv : xL} {st : List xV} {M M0 M' : xM} {v : Option xV} {a b3 c3 : Nat} (hF : xFr p R s m args meth c D ac N0 T0 MI bS LS xs mi) (hd : decode (xbytes mi) pc = .ok (.aastore, xlen (.aastore))) (hk : xlks mi pc (.aastore) a b3 c3 = true) (IH : ∀ pc lv st M, K mi pc lv st M = some (v, M') → xWd p l e R s m args below meth c Q D ac N0 T0 bS LS xs mi M0 pc lv st M) (hs0 : s.heap.size = M0.1) (hRc : M'.1 - M0.1 ≤ R.cells) (hRs : M'.2.1 - M0.2.1 ≤ R.slots) (hm : xMono K) (h : xexec T0 MI K mi pc lv st M (.aastore) a b3 c3 = some (v, M')) : xWd p l e R s m args below meth c Q D ac N0 T0 bS LS xs mi M0 pc lv st M := by
  obtain ⟨hx, hb, hml, hown, hts, hC, hnm, hfr, hlo⟩ := hF
  obtain ⟨x, r0, rfl, h1⟩ := xp1R_some h
  obtain ⟨pp, i, r, rfl, h2⟩ := xpA_some h1
  obtain ⟨q, rfl, h3⟩ := xbind h2
  obtain ⟨M1, h4, h5⟩ := xbind h3
  obtain ⟨t, n, f, he, ht, hin, hmay, rfl⟩ := xsR_some h4
  obtain ⟨hty, ht1, ht2⟩ := xty_R ht
  intro H locs ls hl hR hS hm1 hm2
  obtain ⟨ho1, ho2⟩ := hR.ownA he (by omega) (xin_pos hin)
  obtain ⟨k, hkk⟩ := xWs_at (ac := ac) ho1 ho2
  have hgo : ∀ (H1 : Heap) (locs1 : List Loc), va_P D xcl ((xWs ac N0 M).set k (q, xtr ac (.inl (t, n, .inr (.inr (va_up f i.toNatClampNeg x)))))) H1 → va_D (xAf N0) ((xWs ac N0 M).set k (q, xtr ac (.inl (t, n, .inr (.inr (va_up f i.toNatClampNeg x)))))) → va_S (xAf N0) s.heap H1 locs1 → W p l e R s m args below meth c H1 locs1 (M.1 - M0.1) (M.2.1 - M0.2.1) Q (F0 m (pc + 1) ls (r.map xval)) := by
    intro H1 locs1 hP1 hD1 hS1
    rw [xWs_set ho1 ho2 hkk] at hP1
    exact xW_rep (M1 := xset M q (.inl (t, n, .inr (.inr (va_up f i.toNatClampNeg x))))) hP1 hS1 hC.1 hs0 hm1 (xset_4 hR.2.2.2.1 ho1) (xset_5 hR.2.2.2.2.1 ho2) (xset_6 hR.2.2.2.2.2 (show t < 7 by omega)) (fun hR1 => IH _ _ _ _ h5 H1 locs1 ls hl hR1 hS1 hm1 hm2)
  rw [he] at hkk
  have htt : (xtys ac)[t]? = some (ac t, .object (xaC t)) := by rw [xtys_at (ac := ac) ht2, hty]
  cases x with
  | none => exact va_astqN hx hb hC.2.1 hR.2.2.1 xWs_D hS k t hkk htt (xin_in hin) hd hgo
  | some y => exact va_astqM hx hb hC.2.1 hR.2.2.1 xWs_D hS k t hkk htt (xmayR_any hC hR hmay) (xin_in hin) hd hgo
theorem xlenA_some {M : xM} {a : Nat} {x : Int32} (h : xlenA M a = some x) : ∃ t n y, M.2.2 a = .inl (t, n, y) ∧ x = Int32.ofNat n ∧ (xtr (fun _ => 0) (.inl (t, n, y)) = xtr (fun _ => 0) (.inl (t, n, y))) := by
  unfold xlenA at h
  split at h <;> first | (obtain ⟨-, h2⟩ := xcond h; exact ⟨_, _, _, ‹_›, (Option.some.inj h2).symm, rfl⟩) | cases h
theorem xtr_arr (ac : Nat → ClassId) (t n : Nat) (y : xA) : ∃ z : vp_A, xtr ac (.inl (t, n, y)) = .inl (ac t, z) ∧ z.1 = n := by
  rcases y with f | f | f <;> exact ⟨_, rfl, rfl⟩
theorem xs_arraylength {p : Program} {l : Launch} {e : Env} {R : Room} {s : State} {m : MethodId} {args : Array Value} {below : List Frame} {meth : Method} {c : Code} {Q : State → Prop} {D : va_G} {ac : Nat → ClassId} {N0 T0 MI bS LS : Nat} {xs : Nat → Int32} {K : xK} {mi pc : Nat} {lv : xL} {st : List xV} {M M0 M' : xM} {v : Option xV} {a b3 c3 : Nat} (hF : xFr p R s m args meth c D ac N0 T0 MI bS LS xs mi) (hd : decode (xbytes mi) pc = .ok (.arraylength, xlen (.arraylength))) (hk : xlks mi pc (.arraylength) a b3 c3 = true) (IH : ∀ pc lv st M, K mi pc lv st M = some (v, M') → xWd p l e R s m args below meth c Q D ac N0 T0 bS LS xs mi M0 pc lv st M) (hs0 : s.heap.size = M0.1) (hRc : M'.1 - M0.1 ≤ R.cells) (hRs : M'.2.1 - M0.2.1 ≤ R.slots) (hm : xMono K) (h : xexec T0 MI K mi pc lv st M (.arraylength) a b3 c3 = some (v, M')) : xWd p l e R s m args below meth c Q D ac N0 T0 bS LS xs mi M0 pc lv st M := by
  obtain ⟨hx, hb, hml, hown, hts, hC, hnm, hfr, hlo⟩ := hF
  obtain ⟨pp, r, rfl, h2⟩ := xp1R_some h
  obtain ⟨q, rfl, h3⟩ := xbind h2
  obtain ⟨x, h4, h5⟩ := xbind h3
  obtain ⟨t, n, y, he, rfl, -⟩ := xlenA_some h4
  intro H locs ls hl hR hS hm1 hm2
  have h0 := hC.1
  rcases hR.arr he with ⟨g1, g2, g3⟩ | ⟨g1, rfl, -, rfl, -⟩ | ⟨g1, rfl, -, rfl, g2⟩
  · obtain ⟨k, hkk⟩ := xWs_at (ac := ac) g1 g2
    obtain ⟨z, hz1, hz2⟩ := xtr_arr ac t n y
    rw [he, hz1] at hkk
    exact va_alen hx hb hC.2.1 hR.2.2.1 k t hkk (xtys_at (ac := ac) g3) (by rw [hz2]) hd (IH _ _ _ _ h5 H locs ls hl hR hS hm1 hm2)
  · obtain ⟨⟨-, cell, c1, c2, c3'⟩, -⟩ := hC.2.2.2.2.2.2.2.2
    exact W.alen hx hb (by rw [hS.2.1 q (by omega) (show ¬ N0 ≤ q by omega)]; exact c1) c2 (c3'.trans rfl) rfl rfl hd (IH _ _ _ _ h5 H locs ls hl hR hS hm1 hm2)
  · cases g2
    obtain ⟨-, -, hX⟩ := hC.2.2.2.2.2.2.2.2
    exact va_slen hx hb hX (show q < s.heap.size by omega) (A := xAf N0) (show ¬ N0 ≤ q by omega) hS hd (IH _ _ _ _ h5 H locs ls hl hR hS hm1 hm2)
