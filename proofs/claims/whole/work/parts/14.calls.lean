/-! SOUNDNESS: natives and calls -/
theorem xisOA_some {M : xM} {a : Nat} (h : xisOA M a = true) : ∃ n f, M.2.2 a = .inl (3, n, .inr (.inr f)) ∧ 0 < n := by
  unfold xisOA at h
  split at h
  · rename_i t n f he
    simp only [Bool.and_eq_true] at h
    have e := Nat.eq_of_beq_eq_true h.1
    subst e
    exact ⟨n, f, he, Nat.le_of_ble_eq_true h.2⟩
  · cases h
theorem xcpyOk_some {sp dp n : Int32} {n0 n1 : Nat} (h : xcpyOk sp dp n n0 n1 = true) : ¬ sp < 0 ∧ ¬ dp < 0 ∧ ¬ n < 0 ∧ sp.toNatClampNeg + n.toNatClampNeg ≤ n0 ∧ dp.toNatClampNeg + n.toNatClampNeg ≤ n1 := by
  simp only [xcpyOk, Bool.and_eq_true, Bool.not_eq_true', decide_eq_false_iff_not] at h
  exact ⟨h.1, h.2.1, h.2.2.1, Nat.le_of_ble_eq_true h.2.2.2.1, Nat.le_of_ble_eq_true h.2.2.2.2⟩
theorem xcopy_some {M M1 : xM} {a0 a1 : Nat} {sp dp n : Int32} (h : xcopy M a0 sp a1 dp n = some M1) :
    (∃ n0 n1 f g, M.2.2 a0 = .inl (0, n0, .inl f) ∧ M.2.2 a1 = .inl (0, n1, .inl g) ∧ True ∧ 0 < n1 ∧ xcpyOk sp dp n n0 n1 = true ∧ M1 = xset M a1 (.inl (0, n1, .inl (va_cpy f g sp.toNatClampNeg dp.toNatClampNeg n.toNatClampNeg)))) ∨
    (∃ n0 n1 f g, M.2.2 a0 = .inl (1, n0, .inr (.inl f)) ∧ M.2.2 a1 = .inl (1, n1, .inr (.inl g)) ∧ True ∧ 0 < n1 ∧ xcpyOk sp dp n n0 n1 = true ∧ M1 = xset M a1 (.inl (1, n1, .inr (.inl (va_cpy f g sp.toNatClampNeg dp.toNatClampNeg n.toNatClampNeg))))) ∨
    (∃ n0 n1 f g, M.2.2 a0 = .inl (3, n0, .inr (.inr f)) ∧ M.2.2 a1 = .inl (3, n1, .inr (.inr g)) ∧ 0 < n0 ∧ 0 < n1 ∧ xcpyOk sp dp n n0 n1 = true ∧ xcpyR M 3 f sp.toNatClampNeg n.toNatClampNeg = true ∧ M1 = xset M a1 (.inl (3, n1, .inr (.inr (va_cpy f g sp.toNatClampNeg dp.toNatClampNeg n.toNatClampNeg))))) := by
  unfold xcopy at h
  split at h
  · rename_i t0 n0 f t1 n1 g he0 he1
    obtain ⟨h1, h2⟩ := xcond h
    simp only [Bool.and_eq_true] at h1
    have e0 := Nat.eq_of_beq_eq_true h1.1
    have e1 := Nat.eq_of_beq_eq_true h1.2.1
    subst e0 e1
    exact Or.inl ⟨n0, n1, f, g, he0, he1, trivial, Nat.le_of_ble_eq_true h1.2.2.1, h1.2.2.2, (Option.some.inj h2).symm⟩
  · rename_i t0 n0 f t1 n1 g he0 he1
    obtain ⟨h1, h2⟩ := xcond h
    simp only [Bool.and_eq_true] at h1
    have e0 := Nat.eq_of_beq_eq_true h1.1
    have e1 := Nat.eq_of_beq_eq_true h1.2.1
    subst e0 e1
    exact Or.inr (Or.inl ⟨n0, n1, f, g, he0, he1, trivial, Nat.le_of_ble_eq_true h1.2.2.1, h1.2.2.2, (Option.some.inj h2).symm⟩)
  · rename_i t0 n0 f t1 n1 g he0 he1
    obtain ⟨h1, h2⟩ := xcond h
    simp only [Bool.and_eq_true] at h1
    obtain ⟨g0, g1, ⟨⟨g2, g3⟩, g4⟩, g5⟩ := h1
    have e0 := Nat.eq_of_beq_eq_true g0
    have e1 := Nat.eq_of_beq_eq_true g1
    subst e0 e1
    exact Or.inr (Or.inr ⟨n0, n1, f, g, he0, he1, Nat.le_of_ble_eq_true g2, Nat.le_of_ble_eq_true g3, g4, g5, (Option.some.inj h2).symm⟩)
  · cases h
theorem xML_0 : xML.length = xMLp.length := by decide +kernel
theorem xYL_b : xYL.length = xYLb.length := by decide +kernel
theorem xYL_c : xYL.length = xYLc.length := by decide +kernel
theorem xYL_d : xYL.length = xYLd.length := by decide +kernel
theorem xYL_7 : xYL.all (fun q => Nat.blt q.1 223) = true := by decide +kernel
/-- what the tables say of a call -/
theorem xML_spec {o i a k : Nat} (h : xh4 o i a k = true) : (o, i, a, k) ∈ xML ∧ xcodeIn a ∧ Cond.initialized (xname a).cls ∈ lw_good ∧ (k = 1 → Cond.static (xname a) ∈ lw_good) ∧ (k ≠ 1 → Cond.instanceMethod (xname a) ∈ lw_good) ∧ (k = 0 → Cond.selects (xname a).cls (xname a) (xname a) ∈ lw_good ∧ xown a < 14) ∧ (k ≠ 3 → Cond.methodLink (xcn o) i (xname a) ∈ lw_good) ∧ (2 ≤ k → (xname a).name = "<init>" ∧ xret a = none) ∧ (xname a).cls = xcn (xown a) ∧ plainName (xname a).cls = true ∧ ((xname a).cls ≠ "java/lang/invoke/MethodHandle" ∧ (xname a).cls ≠ "java/lang/invoke/VarHandle" ∧ (parseMethodDescriptor (xname a).desc).map (fun d => d.parameters.length) = some (xnp a)) ∧ a < 223 := by
  have hm := xh4_mem h
  obtain ⟨⟨a', k'⟩, hy, hb⟩ := List.any_eq_true.mp (List.all_eq_true.mp xYL_6 _ hm)
  simp only [Bool.and_eq_true] at hb
  have e1 := Nat.eq_of_beq_eq_true hb.1
  have e2 := Nat.eq_of_beq_eq_true hb.2
  subst e1 e2
  obtain ⟨p1, hp1⟩ := xzip1 xML_0 hm
  have hp1 := List.all_eq_true.mp xML_1 _ hp1
  obtain ⟨p2, hp2⟩ := xzip1 xYL_b hy
  have hp2 := List.all_eq_true.mp xYL_2 _ hp2
  obtain ⟨p3, hp3⟩ := xzip1 xYL_c hy
  have hp3 := List.all_eq_true.mp xYL_3 _ hp3
  obtain ⟨p4, hp4⟩ := xzip1 xYL_d hy
  have hp4 := List.all_eq_true.mp xYL_4 _ hp4
  have h5 := List.all_eq_true.mp xYL_5 _ hy
  have h6 := List.all_eq_true.mp xnp_1 _ hy
  have h7 := List.all_eq_true.mp xYL_7 _ hy
  simp only [xYLs, Bool.and_eq_true, decide_eq_true_eq] at h5
  obtain ⟨g1, g2, g3, g4, g5⟩ := h5
  refine ⟨hm, xYL_1 _ hy, lw_good_of (xat_mem hp2) rfl, fun e => ?_, fun e => ?_, fun e => ?_, fun e => ?_, fun e => ?_, g1, g2, ⟨g3, g4, of_decide_eq_true h6⟩, Nat.le_of_ble_eq_true h7⟩
  · subst e
    exact lw_good_of (xat_mem hp3) rfl
  · have hb : Nat.beq k' 1 = false := by
      cases hb : Nat.beq k' 1 with
      | false => rfl
      | true => exact absurd (Nat.eq_of_beq_eq_true hb) e
    simp only [hb, cond_false] at hp3
    exact lw_good_of (xat_mem hp3) rfl
  · subst e
    exact ⟨lw_good_of (xat_mem hp4) rfl, Nat.le_of_ble_eq_true g5⟩
  · have hb : Nat.beq k' 3 = false := by
      cases hb : Nat.beq k' 3 with
      | false => rfl
      | true => exact absurd (Nat.eq_of_beq_eq_true hb) e
    simp only [xMLw, hb, cond_false] at hp1
    exact lw_good_of (xat_mem hp1) rfl
  · have hb : Nat.ble 2 k' = true := Nat.ble_eq_true_of_le e
    simp only [hb, cond_true, Bool.and_eq_true, decide_eq_true_eq] at g5
    exact g5
theorem xws_good {a : Nat} (h : xcodeIn a) : GoodIn lw_good (xws a) := by
  intro w hw
  rcases List.mem_cons.mp hw with rfl | hw
  · exact ⟨lw_good_of h rfl, good_of_word rfl⟩
  · exact lw_good_in w hw
theorem xcall_some {K : xK} {mi pc : Nat} {lv : xL} {rest : List xV} {M M' : xM} {a rt : Nat} {As : List xV} {v : Option xV} (h : xcall K mi pc lv rest M a rt As = some (v, M')) : xcats rest ≤ 8 ∧ xcats As ≤ (xnums a).1 ∧ ∃ v1 M1, K a 0 (xlocs (xnums a).1 As) [] M = some (v1, M1) ∧ K mi (pc + 3) lv (v1.toList ++ rest) M1 = some (v, M') := by
  unfold xcall at h
  obtain ⟨h1, h2⟩ := xcond h
  simp only [Bool.and_eq_true] at h1
  obtain ⟨⟨v1, M1⟩, h3, h4⟩ := xbind h2
  refine ⟨Nat.le_of_ble_eq_true h1.1, Nat.le_of_ble_eq_true h1.2, v1, M1, h3, ?_⟩
  unfold xback at h4
  split at h4
  · obtain ⟨x, h5, h6⟩ := xbind h4
    have := xasL_some h5
    dsimp only at this
    subst this
    exact h6
  · obtain ⟨x, h5, h6⟩ := xbind h4
    have := xasR_some h5
    dsimp only at this
    subst this
    exact h6
  · obtain ⟨h5, h6⟩ := xcond h4
    cases v1 with
    | none => exact h6
    | some w => cases h5
  · obtain ⟨x, h5, h6⟩ := xbind h4
    have := xasI_some h5
    dsimp only at this
    subst this
    exact h6
theorem xstk {st : List xV} {b : Nat} {w : xV} {r : List xV} (h : st.drop b = w :: r) : st.map xval = ((st.take b).reverse.map xval).reverse ++ xval w :: r.map xval := by
  have e : st = st.take b ++ w :: r := by rw [← h]; exact (List.take_append_drop b st).symm
  have e2 : st.map xval = (st.take b).map xval ++ (w :: r).map xval := by
    rw [← List.map_append, ← e]
  rw [e2, List.map_reverse, List.reverse_reverse]
  rfl
theorem xstkL {st : List xV} {b : Nat} {w : xV} {r : List xV} (h : st.drop b = w :: r) : ((st.take b).reverse.map xval).length = b := by
  have e : (st.drop b).length = r.length + 1 := by rw [h]; rfl
  rw [List.length_drop] at e
  simp
  omega
theorem xstkS (st : List xV) (b : Nat) : st.map xval = ((st.take b).reverse.map xval).reverse ++ (st.drop b).map xval := by
  rw [List.map_reverse, List.reverse_reverse, ← List.map_append, List.take_append_drop]
theorem xPc_blind {D : va_G} {ac : Nat → ClassId} {N0 T0 MI bS LS : Nat} {xs : Nat → Int32} {As : List xV} {M : xM} : FrameBlind (xPc D ac N0 T0 MI bS LS xs As M) := by
  intro a U g mk q
  obtain ⟨q1, q2, q3⟩ := q
  exact ⟨q1, q2, q3.go (U := U.calling g mk a) (State.WarmedH.refl U) (Nat.le_refl _) (fun _ _ _ => rfl)⟩
theorem xlist_some (v : Option xV) (r : List xV) : (v.map xval).toList ++ r.map xval = (v.toList ++ r).map xval := by
  cases v <;> rfl
theorem xroom_some {mi a : Nat} {R : Room} (h : xroom mi a = true) (hfr : (xnums mi).2.2.1 ≤ R.frames) (hlo : (xnums mi).2.2.2 ≤ R.locals) (mc ms : Nat) : (xrm a mc ms).frames + 1 ≤ R.frames ∧ 8 + ((xnums a).1 + 11) + (xrm a mc ms).locals ≤ R.locals := by
  simp only [xroom, Bool.and_eq_true] at h
  have h1 := Nat.le_of_ble_eq_true h.1
  have h2 := Nat.le_of_ble_eq_true h.2
  constructor
  · show (xnums a).2.2.1 + 1 ≤ R.frames
    omega
  · show 8 + ((xnums a).1 + 11) + (xnums a).2.2.2 ≤ R.locals
    omega
theorem xCx_call {D : va_G} {ac : Nat → ClassId} {N0 T0 MI bS LS : Nat} {xs : Nat → Int32} {s U : State} {H : Heap} {locs : List Loc} (hC : xCx D ac N0 T0 MI bS LS xs s) (hS : va_S (xAf N0) s.heap H locs) (hU : U.heap = H) (hW : s.WarmedH U.vm) : xCx D ac N0 T0 MI bS LS xs U := hC.go hW (by rw [hU]; exact hS.1) (fun q h1 h2 => by rw [hU]; exact hS.2.1 q h1 h2)
theorem xs_invokevirtual {p : Program} {l : Launch} {e : Env} {R : Room} {s : State} {m : MethodId} {args : Array Value} {below : List Frame} {meth : Method} {c : Code} {Q : State → Prop} {D : va_G} {ac : Nat → ClassId} {N0 T0 MI bS LS : Nat} {xs : Nat → Int32} {K : xK} {mi pc : Nat} {lv : xL} {st : List xV} {M M0 M' : xM} {v : Option xV} {a b3 c3 : Nat} {i : Nat} (hF : xFr p R s m args meth c D ac N0 T0 MI bS LS xs mi) (hd : decode (xbytes mi) pc = .ok (.invokevirtual i, xlen (.invokevirtual i))) (hk : xlks mi pc (.invokevirtual i) a b3 c3 = true) (IH : ∀ pc lv st M, K mi pc lv st M = some (v, M') → xWd p l e R s m args below meth c Q D ac N0 T0 bS LS xs mi M0 pc lv st M) (hs0 : s.heap.size = M0.1) (hRc : M'.1 - M0.1 ≤ R.cells) (hRs : M'.2.1 - M0.2.1 ≤ R.slots) (hm : xMono K) (hcl : xCalls K l D ac N0 T0 MI bS LS xs) (h : xexec T0 MI K mi pc lv st M (.invokevirtual i) a b3 c3 = some (v, M')) : xWd p l e R s m args below meth c Q D ac N0 T0 bS LS xs mi M0 pc lv st M := by
  obtain ⟨hx, hb, hml, hown, hts, hC, hnm, hfr, hlo⟩ := hF
  intro H locs ls hl hR hS hm1 hm2
  cases h0 : Nat.beq c3 52 with
  | true =>
    simp only [xlks, h0, cond_true, Bool.and_eq_true] at hk
    obtain ⟨k1, k2, k3, k4⟩ := hk
    have k1 := Nat.eq_of_beq_eq_true k1
    have k2 := Nat.eq_of_beq_eq_true k2
    have k3 := Nat.le_of_ble_eq_true k3
    have k4 := Nat.le_of_ble_eq_true k4
    subst k2
    rw [k1] at hown
    simp only [xexec, h0, cond_true] at h
    obtain ⟨pp, r, rfl, h2⟩ := xp1R_some h
    obtain ⟨q, rfl, h3⟩ := xbind h2
    obtain ⟨h4, h5⟩ := xcond h3
    simp only [Bool.and_eq_true] at h4
    obtain ⟨h4, h6⟩ := h4
    have h6 := Nat.le_of_ble_eq_true h6
    obtain ⟨n, f, he, hn⟩ := xisOA_some h4
    obtain ⟨ho1, ho2⟩ := hR.ownA he (by decide) hn
    obtain ⟨k, hkk⟩ := xWs_at (ac := ac) ho1 ho2
    rw [he] at hkk
    have hcell : H[q]? = some (vp_cell (ac 3) (n, .inr (.inr (.inr (.inr f))))) := hR.2.2.1 k _ hkk
    have hfc : s.vm.findClass "[Ljava/lang/Object;" = some (ac 3) := va_nmO ((hC.2.1.2 3 _ (xtys_at (ac := ac) (t := 3) (by decide))).2) (by decide)
    exact va_getC (a := q) hx hb (hml.trans hl.1.symm) hown (hts _ (lw_good_of xw_gc1 rfl)) (va_Dc.use hC.2.2.2.2.2.1) (hts _ (lw_good_of xw_gc3 rfl)) (hts _ (lw_good_of xw_gc4 rfl)) (hts _ (lw_good_of xw_gc5 rfl)) hC.2.2.2.2.2.2.1 ⟨_, hcell, rfl, hfc⟩ (by omega) (by rw [xcats_sum]; omega) hd (IH _ _ _ _ h5 H locs ls hl hR hS hm1 hm2)
  | false =>
    simp only [xexec, h0, cond_false] at h
    obtain ⟨h1, h⟩ := xcond h
    simp only [xlks, h0, h1, cond_true, cond_false, Bool.and_eq_true] at hk
    obtain ⟨hk1, hk2, hk3⟩ := hk
    have hk3 := Nat.eq_of_beq_eq_true hk3
    obtain ⟨pp, r, hdrop, h2⟩ := xp1R_some h
    obtain ⟨q, rfl, h3⟩ := xbind h2
    obtain ⟨h4, h9⟩ := xcond h3
    obtain ⟨fs, he⟩ := xcls_some h4
    obtain ⟨hr8, hA8, v1, M1, hcal, h⟩ := xcall_some h9
    obtain ⟨hmem, hco, hini, hsta, hins, hsel, hlnk, hnit, hcn, hpl, hdd, h223⟩ := xML_spec hk1
    have hM := hcl a _ M v1 M1 hco hpl hcn hA8 h223 hcal
    have hmA := hm _ _ _ _ _ _ _ hcal
    have hmB := hm _ _ _ _ _ _ _ h
    obtain ⟨hse, h14⟩ := hsel rfl
    obtain ⟨ho1, ho2⟩ := hR.own he h14
    obtain ⟨k, hkk⟩ := xWs_at (ac := ac) ho1 ho2
    rw [he] at hkk
    have hrecv : ∃ cell : Cell, H[q]? = some cell ∧ cell.vm.isStatics = false ∧ s.vm.findClass (xname a).cls = some cell.cls := by
      rw [hcn]
      exact va_recv hC.2.1 hR.2.2.1 (xcl_at h14) hkk
    have hgw : GoodIn lw_good (wsV (xcn (xown mi)) i (xname a).cls (xname a) (xws a)) := by
      intro w hw
      rcases List.mem_append.mp hw with hw | hw
      · simp only [List.mem_cons, List.not_mem_nil, or_false] at hw
        rcases hw with rfl | rfl | rfl | rfl
        · exact lw_good_in _ (hlnk (by decide))
        · exact lw_good_in _ (hins (by decide))
        · exact lw_good_in _ hse
        · exact lw_good_in _ hini
      · exact xws_good hco w hw
    have e1 : M.1 - M0.1 + (M1.1 - M.1) = M1.1 - M0.1 := by omega
    have e2 : M.2.1 - M0.2.1 + (M1.2.1 - M.2.1) = M1.2.1 - M0.2.1 := by omega
    have hrm := xroom_some hk2 hfr hlo (M1.1 - M.1) (M1.2.1 - M.2.1)
    have hgo : ∀ (H1 : Heap) (locs1 : List Loc), xRep D ac N0 (xFo T0 bS LS xs) M1 H1 → va_S (xAf N0) s.heap H1 locs1 → W p l e R s m args below meth c H1 locs1 (M.1 - M0.1 + (M1.1 - M.1)) (M.2.1 - M0.2.1 + (M1.2.1 - M.2.1)) Q (F0 m (pc + 3) ls ((v1.map xval).toList ++ (r).map xval)) := by
      intro H1 locs1 hP1 hS1
      rw [e1, e2, xlist_some]
      exact IH _ _ _ _ h H1 locs1 ls hl hP1 hS1 (by omega) (by omega)
    rw [xstk hdrop]
    exact xcall_go (fun _ _ _ hq => hq) (va_runV (As := (st.take b3).reverse.map xval) (rest := r.map xval) ⟨hx, hb, hml, hown, hts⟩ hM (cwV b3 hts hgw rfl rfl rfl ⟨rfl, hdd.1, hdd.2.1, by rw [hk3]; exact hdd.2.2⟩ hrm) ⟨xPc_blind, hrecv, fun U hU hW => ⟨rfl, by rw [hU]; exact hR, xCx_call hC hS hU hW⟩⟩ rfl (xstkL hdrop) hl.1 rfl (lv_room (by rw [xcats_sum]; exact hr8)) hd ⟨by omega, by omega⟩) hS hgo
theorem xs_invokestatic {p : Program} {l : Launch} {e : Env} {R : Room} {s : State} {m : MethodId} {args : Array Value} {below : List Frame} {meth : Method} {c : Code} {Q : State → Prop} {D : va_G} {ac : Nat → ClassId} {N0 T0 MI bS LS : Nat} {xs : Nat → Int32} {K : xK} {mi pc : Nat} {lv : xL} {st : List xV} {M M0 M' : xM} {v : Option xV} {a b3 c3 : Nat} {i : Nat} (hF : xFr p R s m args meth c D ac N0 T0 MI bS LS xs mi) (hd : decode (xbytes mi) pc = .ok (.invokestatic i, xlen (.invokestatic i))) (hk : xlks mi pc (.invokestatic i) a b3 c3 = true) (IH : ∀ pc lv st M, K mi pc lv st M = some (v, M') → xWd p l e R s m args below meth c Q D ac N0 T0 bS LS xs mi M0 pc lv st M) (hs0 : s.heap.size = M0.1) (hRc : M'.1 - M0.1 ≤ R.cells) (hRs : M'.2.1 - M0.2.1 ≤ R.slots) (hm : xMono K) (hcl : xCalls K l D ac N0 T0 MI bS LS xs) (h : xexec T0 MI K mi pc lv st M (.invokestatic i) a b3 c3 = some (v, M')) : xWd p l e R s m args below meth c Q D ac N0 T0 bS LS xs mi M0 pc lv st M := by
  obtain ⟨hx, hb, hml, hown, hts, hC, hnm, hfr, hlo⟩ := hF
  intro H locs ls hl hR hS hm1 hm2
  cases h0 : Nat.beq c3 51 with
  | true =>
    simp only [xlks, h0, cond_true, Bool.and_eq_true] at hk
    obtain ⟨k1, k3, k4⟩ := hk
    have k3 := Nat.le_of_ble_eq_true k3
    have k4 := Nat.le_of_ble_eq_true k4
    simp only [xexec, h0, cond_true] at h
    obtain ⟨n, r1, rfl, h2⟩ := xp1I_some h
    obtain ⟨p1, dp, r2, rfl, h3⟩ := xpA_some h2
    obtain ⟨a1, rfl, h4⟩ := xbind h3
    obtain ⟨p0, sp, r, rfl, h5⟩ := xpA_some h4
    obtain ⟨a0, rfl, h6⟩ := xbind h5
    obtain ⟨h7, h8⟩ := xcond h6
    have h7 := Nat.le_of_ble_eq_true h7
    obtain ⟨M1, h9, h10⟩ := xbind h8
    have hL : ((r.map xval).map fun v => v.category).sum + (nativeFrameWords "java/lang/System" "arraycopy" 5 + 11) ≤ R.locals := by
      rw [xcats_sum]
      omega
    have hset : ∀ (E : xE) (k : Nat), N0 ≤ a1 → a1 < M.1 → (xWs ac N0 M)[k]? = some (a1, xtr ac (M.2.2 a1)) → M1 = xset M a1 E → xtOk E → ∀ (H1 : Heap) (locs1 : List Loc), va_P D xcl ((xWs ac N0 M).set k (a1, xtr ac E)) H1 → va_D (xAf N0) ((xWs ac N0 M).set k (a1, xtr ac E)) → va_S (xAf N0) s.heap H1 locs1 → W p l e R s m args below meth c H1 locs1 (M.1 - M0.1) (M.2.1 - M0.2.1) Q (F0 m (pc + 3) ls (r.map xval)) := by
      intro E k g1 g2 g4 g5 g3 H1 locs1 hP1 hD1 hS1
      subst g5
      rw [xWs_set g1 g2 g4] at hP1
      exact xW_rep (M1 := xset M a1 E) hP1 hS1 hC.1 hs0 hm1 (xset_4 hR.2.2.2.1 g1) (xset_5 hR.2.2.2.2.1 g2) (xset_6 hR.2.2.2.2.2 g3) (fun hR1 => IH _ _ _ _ h10 H1 locs1 ls hl hR1 hS1 hm1 hm2)
    have w1 := hts _ (xRL_spec k1)
    have w2 := hts _ (lw_good_of xw_ac1 rfl)
    have w3 := hts _ (lw_good_of xw_ac2 rfl)
    have w4 := hts _ (lw_good_of xw_ac3 rfl)
    have hml2 := hml.trans hl.1.symm
    rcases xcopy_some h9 with ⟨n0, n1, f, g, he0, he1, z0, z1, hok, hM1⟩ | ⟨n0, n1, f, g, he0, he1, z0, z1, hok, hM1⟩ | ⟨n0, n1, f, g, he0, he1, z0, z1, hok, hcr, hM1⟩
    · obtain ⟨o1, o2⟩ := hR.ownA he1 (by decide) z1
      obtain ⟨q1, hq1⟩ := xWs_at (ac := ac) o1 o2
      obtain ⟨s1, s2, s3, s4, s5⟩ := xcpyOk_some hok
      have hgo := hset _ q1 o1 o2 hq1 hM1 (show (0 : Nat) < 7 by decide)
      rcases hR.arr he0 with ⟨o3, o4, -⟩ | ⟨-, -, h9', -⟩ | ⟨-, -, h9', -⟩
      · obtain ⟨q0, hq0⟩ := xWs_at (ac := ac) o3 o4
        rw [he0] at hq0
        rw [he1] at hq1
        exact va_copyi hx hb hml2 hown w1 w2 w3 w4 hC.2.1 hR.2.2.1 xWs_D hS q0 q1 0 0 hq0 hq1 (xtys_at (ac := ac) (t := 0) (by decide)) (xtys_at (ac := ac) (t := 0) (by decide)) rfl s1 s2 s3 s4 s5 (fun _ _ => rfl) (by omega) hL hd hgo
      · omega
      · omega
    · obtain ⟨o1, o2⟩ := hR.ownA he1 (by decide) z1
      obtain ⟨q1, hq1⟩ := xWs_at (ac := ac) o1 o2
      obtain ⟨s1, s2, s3, s4, s5⟩ := xcpyOk_some hok
      have hgo := hset _ q1 o1 o2 hq1 hM1 (show (1 : Nat) < 7 by decide)
      rcases hR.arr he0 with ⟨o3, o4, -⟩ | ⟨-, -, h9', -⟩ | ⟨-, -, h9', -⟩
      · obtain ⟨q0, hq0⟩ := xWs_at (ac := ac) o3 o4
        rw [he0] at hq0
        rw [he1] at hq1
        exact va_copyl hx hb hml2 hown w1 w2 w3 w4 hC.2.1 hR.2.2.1 xWs_D hS q0 q1 1 1 hq0 hq1 (xtys_at (ac := ac) (t := 1) (by decide)) (xtys_at (ac := ac) (t := 1) (by decide)) rfl s1 s2 s3 s4 s5 (fun _ _ => rfl) (by omega) hL hd hgo
      · omega
      · omega
    · obtain ⟨o1, o2⟩ := hR.ownA he1 (by decide) z1
      obtain ⟨o3, o4⟩ := hR.ownA he0 (by decide) z0
      obtain ⟨q1, hq1⟩ := xWs_at (ac := ac) o1 o2
      obtain ⟨q0, hq0⟩ := xWs_at (ac := ac) o3 o4
      obtain ⟨s1, s2, s3, s4, s5⟩ := xcpyOk_some hok
      have hgo := hset _ q1 o1 o2 hq1 hM1 (show (3 : Nat) < 7 by decide)
      rw [he0] at hq0
      rw [he1] at hq1
      exact va_copyM hx hb hml2 hown w1 w2 w3 w4 hC.2.1 hR.2.2.1 xWs_D hS q0 q1 3 3 hq0 hq1 (E0 := "java/lang/Object") (E1 := "java/lang/Object") (xtys_at (ac := ac) (t := 3) (by decide)) (xtys_at (ac := ac) (t := 3) (by decide)) s1 s2 s3 s4 s5 (fun i hi y hy => by
        have := List.all_eq_true.mp hcr i (List.mem_range.mpr hi)
        rw [hy] at this
        exact xmayR_any (t := 3) hC hR this) (by omega) hL hd hgo
  | false =>
    simp only [xexec, h0, cond_false] at h
    cases h53 : Nat.beq c3 53 with
    | true =>
      simp only [h53, cond_true] at h
      simp only [xlks, h0, h53, cond_true, cond_false, Bool.and_eq_true] at hk
      obtain ⟨k1, k3, k4⟩ := hk
      have k3 := Nat.le_of_ble_eq_true k3
      have k4 := Nat.le_of_ble_eq_true k4
      obtain ⟨x, y, r, rfl, h2⟩ := xp2I_some h
      obtain ⟨h7, h8⟩ := xcond h2
      have h7 := Nat.le_of_ble_eq_true h7
      have hmm := hm _ _ _ _ _ _ _ h8
      exact va_mmax hx hb (hml.trans hl.1.symm) hown (hts _ (xXL_spec k1)) (hts _ (lw_good_of xw_mmax1 rfl)) (hts _ (lw_good_of xw_m0 rfl)) (hts _ (lw_good_of xw_mmax2 rfl)) (by omega) (by rw [xcats_sum]; omega) (by omega) (by omega) hd (IH _ _ _ _ h8 H locs ls hl hR hS hm1 hm2)
    | false =>
      simp only [h53, cond_false] at h
      cases h54 : Nat.beq c3 54 with
      | true =>
        simp only [h54, cond_true] at h
        simp only [xlks, h0, h53, h54, cond_true, cond_false, Bool.and_eq_true] at hk
        obtain ⟨k1, k3, k4⟩ := hk
        have k3 := Nat.le_of_ble_eq_true k3
        have k4 := Nat.le_of_ble_eq_true k4
        obtain ⟨x, y, r, rfl, h2⟩ := xp2I_some h
        obtain ⟨h7, h8⟩ := xcond h2
        have h7 := Nat.le_of_ble_eq_true h7
        have hmm := hm _ _ _ _ _ _ _ h8
        exact va_mmin hx hb (hml.trans hl.1.symm) hown (hts _ (xUL_spec k1)) (hts _ (lw_good_of xw_mmin1 rfl)) (hts _ (lw_good_of xw_m0 rfl)) (hts _ (lw_good_of xw_mmin2 rfl)) (by omega) (by rw [xcats_sum]; omega) (by omega) (by omega) hd (IH _ _ _ _ h8 H locs ls hl hR hS hm1 hm2)
      | false =>
        simp only [h54, cond_false] at h
        obtain ⟨h1, h9⟩ := xcond h
        simp only [Bool.and_eq_true] at h1
        obtain ⟨hc1, hc2, hb0⟩ := h1
        have hb0 := Nat.le_of_ble_eq_true hb0
        simp only [xlks, h0, h53, h54, hc1, hc2, cond_true, cond_false, Bool.and_true, Bool.and_eq_true] at hk
        obtain ⟨hk1, hk2, hk3⟩ := hk
        have hk3 := Nat.eq_of_beq_eq_true hk3
        obtain ⟨hr8, hA8, v1, M1, hcal, h⟩ := xcall_some h9
        obtain ⟨hmem, hco, hini, hsta, hins, hsel, hlnk, hnit, hcn, hpl, hdd, h223⟩ := xML_spec hk1
        have hM := hcl a _ M v1 M1 hco hpl hcn hA8 h223 hcal
        have hmA := hm _ _ _ _ _ _ _ hcal
        have hmB := hm _ _ _ _ _ _ _ h
        have hgw : GoodIn lw_good (va_wsS (xcn (xown mi)) i (xname a) (xws a)) := by
          intro w hw
          rcases List.mem_append.mp hw with hw | hw
          · simp only [List.mem_cons, List.not_mem_nil, or_false] at hw
            rcases hw with rfl | rfl | rfl
            · exact lw_good_in _ (hlnk (by decide))
            · exact lw_good_in _ (hsta rfl)
            · exact lw_good_in _ hini
          · exact xws_good hco w hw
        have e1 : M.1 - M0.1 + (M1.1 - M.1) = M1.1 - M0.1 := by omega
        have e2 : M.2.1 - M0.2.1 + (M1.2.1 - M.2.1) = M1.2.1 - M0.2.1 := by omega
        have hrm := xroom_some hk2 hfr hlo (M1.1 - M.1) (M1.2.1 - M.2.1)
        have hgo : ∀ (H1 : Heap) (locs1 : List Loc), xRep D ac N0 (xFo T0 bS LS xs) M1 H1 → va_S (xAf N0) s.heap H1 locs1 → W p l e R s m args below meth c H1 locs1 (M.1 - M0.1 + (M1.1 - M.1)) (M.2.1 - M0.2.1 + (M1.2.1 - M.2.1)) Q (F0 m (pc + 3) ls ((v1.map xval).toList ++ (st.drop b3).map xval)) := by
          intro H1 locs1 hP1 hS1
          rw [e1, e2, xlist_some]
          exact IH _ _ _ _ h H1 locs1 ls hl hP1 hS1 (by omega) (by omega)
        rw [xstkS st b3]
        exact xcall_go (fun _ _ _ hq => hq) (va_runS (As := (st.take b3).reverse.map xval) (rest := (st.drop b3).map xval) ⟨hx, hb, hml, hown, hts⟩ hM (va_cwS b3 hts hgw rfl rfl rfl ⟨hdd.1, hdd.2.1, by rw [hk3]; exact hdd.2.2⟩ hrm) ⟨xPc_blind, fun U hU hW => ⟨rfl, by rw [hU]; exact hR, xCx_call hC hS hU hW⟩⟩ rfl (by simp; omega) hl.1 rfl (lv_room (by rw [xcats_sum]; exact hr8)) hd ⟨by omega, by omega⟩) hS hgo
theorem xs_invokespecial {p : Program} {l : Launch} {e : Env} {R : Room} {s : State} {m : MethodId} {args : Array Value} {below : List Frame} {meth : Method} {c : Code} {Q : State → Prop} {D : va_G} {ac : Nat → ClassId} {N0 T0 MI bS LS : Nat} {xs : Nat → Int32} {K : xK} {mi pc : Nat} {lv : xL} {st : List xV} {M M0 M' : xM} {v : Option xV} {a b3 c3 : Nat} {i : Nat} (hF : xFr p R s m args meth c D ac N0 T0 MI bS LS xs mi) (hd : decode (xbytes mi) pc = .ok (.invokespecial i, xlen (.invokespecial i))) (hk : xlks mi pc (.invokespecial i) a b3 c3 = true) (IH : ∀ pc lv st M, K mi pc lv st M = some (v, M') → xWd p l e R s m args below meth c Q D ac N0 T0 bS LS xs mi M0 pc lv st M) (hs0 : s.heap.size = M0.1) (hRc : M'.1 - M0.1 ≤ R.cells) (hRs : M'.2.1 - M0.2.1 ≤ R.slots) (hm : xMono K) (hcl : xCalls K l D ac N0 T0 MI bS LS xs) (h : xexec T0 MI K mi pc lv st M (.invokespecial i) a b3 c3 = some (v, M')) : xWd p l e R s m args below meth c Q D ac N0 T0 bS LS xs mi M0 pc lv st M := by
  obtain ⟨hx, hb, hml, hown, hts, hC, hnm, hfr, hlo⟩ := hF
  intro H locs ls hl hR hS hm1 hm2
  cases h0 : Nat.beq c3 50 with
  | true =>
    simp only [xlks, h0, cond_true, Bool.and_eq_true] at hk
    obtain ⟨k1, k3, k4⟩ := hk
    have k3 := Nat.le_of_ble_eq_true k3
    have k4 := Nat.le_of_ble_eq_true k4
    simp only [xexec, h0, cond_true] at h
    obtain ⟨pp, r, rfl, h2⟩ := xp1R_some h
    obtain ⟨q, rfl, h3⟩ := xbind h2
    obtain ⟨h4, h5⟩ := xcond h3
    have h4 := Nat.le_of_ble_eq_true h4
    refine W.objInit hx hb hown (hts _ (xOL_spec k1)) (hts _ (lw_good_of xw_obj1 rfl)) (hts _ (lw_good_of xw_obj2 rfl)) rfl (by rw [hml]; exact hl.1) rfl hd (by omega) ?_ (IH _ _ _ _ h5 H locs ls hl hR hS hm1 hm2)
    have := lv_room (m := m) (pc := pc) (ls := ls) (rest := (vr (some q) :: r).map xval) (st := r.map xval) (by rw [xcats_sum]; exact h4)
    omega
  | false =>
    simp only [xexec, h0, cond_false] at h
    obtain ⟨h1, h⟩ := xcond h
    obtain ⟨pp, r, hdrop, h2⟩ := xp1R_some h
    obtain ⟨q, rfl, h9⟩ := xbind h2
    cases h24 : Nat.beq c3 24 with
    | true =>
      simp only [xlks, h0, h24, cond_true, cond_false, Bool.and_eq_true] at hk
      obtain ⟨hk1, hk2, hk3⟩ := hk
      have hk3 := Nat.eq_of_beq_eq_true hk3
      obtain ⟨hr8, hA8, v1, M1, hcal, h⟩ := xcall_some h9
      obtain ⟨hmem, hco, hini, hsta, hins, hsel, hlnk, hnit, hcn, hpl, hdd, h223⟩ := xML_spec hk1
      have hM := hcl a _ M v1 M1 hco hpl hcn hA8 h223 hcal
      have hmA := hm _ _ _ _ _ _ _ hcal
      have hmB := hm _ _ _ _ _ _ _ h
      obtain ⟨hni, hre⟩ := hnit (by decide)
      have hw : xws a = Cond.code (xname a) (xbytes a) (xnums a).1 none :: lw_good := by rw [← hre]; rfl
      have e1 : M.1 - M0.1 + (M1.1 - M.1) = M1.1 - M0.1 := by omega
      have e2 : M.2.1 - M0.2.1 + (M1.2.1 - M.2.1) = M1.2.1 - M0.2.1 := by omega
      have hrm := xroom_some hk2 hfr hlo (M1.1 - M.1) (M1.2.1 - M.2.1)
      have hgo : ∀ (H1 : Heap) (locs1 : List Loc), xRep D ac N0 (xFo T0 bS LS xs) M1 H1 → va_S (xAf N0) s.heap H1 locs1 → W p l e R s m args below meth c H1 locs1 (M.1 - M0.1 + (M1.1 - M.1)) (M.2.1 - M0.2.1 + (M1.2.1 - M.2.1)) Q (F0 m (pc + 3) ls ((v1.map xval).toList ++ (r).map xval)) := by
        intro H1 locs1 hP1 hS1
        rw [e1, e2, xlist_some]
        exact IH _ _ _ _ h H1 locs1 ls hl hP1 hS1 (by omega) (by omega)
      rw [xstk hdrop]
      exact xcall_go (fun _ _ _ hq => hq) (va_runI (As := (st.take b3).reverse.map xval) (rest := r.map xval) ⟨hx, hb, hml, hown, hts⟩ hM (cwI b3 hts (xws_good hco) hw rfl rfl (hts _ hini) (hts _ (hlnk (by decide))) (hts _ (hins (by decide))) hni ⟨hdd.1, hdd.2.1, by rw [hk3]; exact hdd.2.2⟩ hrm) ⟨xPc_blind, fun U hU hW => ⟨rfl, by rw [hU]; exact hR, xCx_call hC hS hU hW⟩⟩ rfl (xstkL hdrop) hl.1 rfl (lv_room (by rw [xcats_sum]; exact hr8)) hd ⟨by omega, by omega⟩) hS hgo
    | false =>
      simp only [h24, Bool.false_or] at h1
      simp only [xlks, h0, h24, h1, cond_true, cond_false, Bool.and_eq_true] at hk
      obtain ⟨hk1, hk2, hk3⟩ := hk
      have hk3 := Nat.eq_of_beq_eq_true hk3
      obtain ⟨hr8, hA8, v1, M1, hcal, h⟩ := xcall_some h9
      obtain ⟨hmem, hco, hini, hsta, hins, hsel, hlnk, hnit, hcn, hpl, hdd, h223⟩ := xML_spec hk1
      have hM := hcl a _ M v1 M1 hco hpl hcn hA8 h223 hcal
      have hmA := hm _ _ _ _ _ _ _ hcal
      have hmB := hm _ _ _ _ _ _ _ h
      have hnest : va_Nw (.methodLinkNest (xcn (xown mi)) i (xname a) "RangeHouse") s := hC.2.2.1 (xown mi, i, a, 3) hmem rfl
      obtain ⟨hni, hre⟩ := hnit (by decide)
      have hw : xws a = Cond.code (xname a) (xbytes a) (xnums a).1 none :: lw_good := by rw [← hre]; rfl
      have e1 : M.1 - M0.1 + (M1.1 - M.1) = M1.1 - M0.1 := by omega
      have e2 : M.2.1 - M0.2.1 + (M1.2.1 - M.2.1) = M1.2.1 - M0.2.1 := by omega
      have hrm := xroom_some hk2 hfr hlo (M1.1 - M.1) (M1.2.1 - M.2.1)
      have hgo : ∀ (H1 : Heap) (locs1 : List Loc), xRep D ac N0 (xFo T0 bS LS xs) M1 H1 → va_S (xAf N0) s.heap H1 locs1 → W p l e R s m args below meth c H1 locs1 (M.1 - M0.1 + (M1.1 - M.1)) (M.2.1 - M0.2.1 + (M1.2.1 - M.2.1)) Q (F0 m (pc + 3) ls ((v1.map xval).toList ++ (r).map xval)) := by
        intro H1 locs1 hP1 hS1
        rw [e1, e2, xlist_some]
        exact IH _ _ _ _ h H1 locs1 ls hl hP1 hS1 (by omega) (by omega)
      rw [xstk hdrop]
      exact xcall_go (fun _ _ _ hq => hq) (va_runIN (host := "RangeHouse") (As := (st.take b3).reverse.map xval) (rest := r.map xval) ⟨hx, hb, hml, hown, hts⟩ hM ⟨va_cnB b3 hts (xws_good hco) hw rfl rfl hnest (hts _ hini) ⟨hdd.1, hdd.2.1, by rw [hk3]; exact hdd.2.2⟩ hrm, hni, hts _ (hins (by decide))⟩ ⟨xPc_blind, fun U hU hW => ⟨rfl, by rw [hU]; exact hR, xCx_call hC hS hU hW⟩⟩ rfl (xstkL hdrop) hl.1 rfl (lv_room (by rw [xcats_sum]; exact hr8)) hd ⟨by omega, by omega⟩) hS hgo
