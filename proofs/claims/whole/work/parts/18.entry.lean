/-! THE CLAIM OUT OF ONE WALK OF THE LAW'S BODY. Your part is whole_start (and what it stands on); all else here is the same for every law, but numbers. -/
def R_law : String := "RangeHouseLaw"
def lw_P (b : Addr) (xs : List Int32) (args : Array Value) (s : State) : Prop := args = #[.ref b] ∧ s.IntsAt b xs ∧ xs.length ≤ 4096 ∧ (Jvm.Cond.and given_1 narrow_1).before args s = true
def lw_Q (_ : Array Value) (s : State) (o : Outcome) (t : State) : Prop := o = .returned (some (.int 1)) ∧ Framed s o t [] room_1.cells room_1.slots
def lw_Z (below : List Frame) (a : Array Value) (s : State) : State → Prop := fun t => ∃ o, t.status = .running ∧ Ended t below o ∧ lw_Q a s o t
/-- the law's own end, with 1 on the stack, nothing written that was there before, its room as the claim has it -/
theorem lw_ret {p : Program} {l : Launch} {e : Env} {s : State} {m : MethodId} {below : List Frame} {meth : Method} {c : Code} {b : Nat} (hx : p.tables.exec = Jvm.exec) (hb : c.code = code) (hr : meth.sig.returnType = ret) (hlocks : meth.locks = false) {pc : Nat} {H : Heap} {ls : Array Slot} (hdg : decode code pc = .ok (.ireturn, 1)) : W p l e room_1 s m #[Value.ref b] below meth c H [] room_1.cells room_1.slots (lw_Z below #[Value.ref b] s) (F0 m pc ls [.int 1]) := by
  intro T hT X
  obtain ⟨fs, hret, hrun, hended, hW, hframe⟩ := X.leave (v := some (.int 1)) (hlocks := hlocks) (fun h => by rw [hr] at h; cases h)
  have hmeth' : T.vm.method? m = some meth := X.method'
  refine ⟨T.setFrames fs, ?_, .returned (some (.int 1)), hrun, hended, rfl, ⟨_, rfl⟩, hW, hframe⟩
  jvm_step X.here [X.here.top, hx, hb, hdg, hmeth', hr, ret, narrow_b1]
  (try refine ⟨rfl, ?_⟩); (try refine ⟨rfl, ?_⟩)
  first | (intro acts; rw [hret _ acts rfl rfl rfl]) | rw [hret _ _ rfl rfl rfl]
  exact Steps.refl _
/-- what holds at the law's entry: the machine, the code, the tables' words (any of lw_tbl by 'hts w (by decide +kernel)'), the script of L ints xs at the cell b, what the Statement gives of the start (any of its parts by flat_of_before) -/
def lw_At (p : Program) (s : State) (m : MethodId) (meth : Method) (c : Code) (b L : Nat) (xs : Nat → Int32) : Prop :=
  p.tables.exec = Jvm.exec ∧ c.code = code ∧ meth.sig.returnType = ret ∧ c.maxLocals = 4 ∧ s.vm.findClass R_law = some m.cls ∧ (∀ w ∈ lw_tbl, w.before #[Value.ref b] s = true) ∧ va_X b L xs s s.heap ∧ b < s.heap.size ∧ meth.locks = false ∧ (Jvm.Cond.and given_1 narrow_1).before #[Value.ref b] s = true
/-- THE LAW AS A RUN OF THE ABSTRACT MACHINE: this is what is left to prove -/
def xM0 (N0 T0 b L : Nat) (xs : Nat → Int32) : xM := (N0, 0, fun a => if a < N0 then xFo T0 b L xs a else xjunk)
def xLawOk : Prop := ∀ (N0 T0 MI b L : Nat) (xs : Nat → Int32), T0 < N0 → b < N0 → b ≠ T0 → L ≤ 4096 → ∃ M', xZ T0 MI 222 0 [some (vr (some b)), none, none, none] [] (xM0 N0 T0 b L xs) = some (some (vi 1), M') ∧ M'.1 - N0 ≤ 590000 ∧ M'.2.1 ≤ 7300000
theorem xknown {s : State} {args : Array Value} (hts : ∀ w ∈ lw_good, w.before args s = true) : ∃ (dC : Nat → ClassId) (dI : Nat → Nat → Nat), ∀ (k : Nat) (q : vw_C), xcl[k]? = some q → u_Kn s q.1 q.2.1 q.2.2 (dC k) (dI k) := by
  have h : ∀ k : Nat, ∃ (c : ClassId) (i : Nat → Nat), k < 14 → u_Kn s (xcn k) (xT k) (xnf k) c i := by
    intro k
    by_cases hk : k < 14
    · obtain ⟨c, i, h⟩ := u_known (C := xcn k) (T := xT k) (N := xnf k) (n := xnf k) hts (xU_in hk) (hts _ (xI_spec hk))
      exact ⟨c, i, fun _ => h⟩
    · exact ⟨0, fun _ => 0, fun h => absurd h hk⟩
  refine ⟨fun k => Classical.choose (h k), fun k => Classical.choose (Classical.choose_spec (h k)), fun k q hq => ?_⟩
  have hk : k < 14 := (List.getElem?_eq_some_iff.mp hq).1
  have h2 := Classical.choose_spec (Classical.choose_spec (h k)) hk
  rw [xcl_at hk] at hq
  cases hq
  exact h2
theorem xarrays {s : State} {args : Array Value} (hts : ∀ w ∈ lw_tbl, w.before args s = true) : ∃ ac : Nat → ClassId, ∀ t, t < 7 → ArrOfT s (ac t) (xty t) ∧ va_RA s (ac t) (xty t) := by
  have h : ∀ t : Nat, ∃ c : ClassId, t < 7 → ArrOfT s c (xty t) ∧ va_RA s c (xty t) := by
    intro t
    match t with
    | 0 =>
      obtain ⟨c, k, comp, h1, h2, h3⟩ := Cond.arrayClass_spec (hts _ xw_a0)
      exact ⟨c, fun _ => ⟨fun n z => ⟨fun k h => (by cases h), k, h2, comp, h3⟩, h1⟩⟩
    | 1 =>
      obtain ⟨c, k, comp, h1, h2, h3⟩ := Cond.arrayClass_spec (hts _ xw_a1)
      exact ⟨c, fun _ => ⟨fun n z => ⟨fun k h => (by cases h), k, h2, comp, h3⟩, h1⟩⟩
    | 2 =>
      obtain ⟨c, k, comp, h1, h2, h3⟩ := Cond.arrayClass_spec (hts _ xw_a2)
      exact ⟨c, fun _ => ⟨fun n z => ⟨fun k h => (by cases h), k, h2, comp, h3⟩, h1⟩⟩
    | 3 =>
      obtain ⟨comp, c, k, h1, -, h3, h4, h5⟩ := Cond.arrayOver_spec (hts _ xw_ao3)
      exact ⟨c, fun _ => ⟨fun n z => ⟨fun k h => (by cases h), k, h3, comp, h4⟩, k, comp, h3, h4, h1, h5⟩⟩
    | 4 =>
      obtain ⟨comp, c, k, h1, -, h3, h4, h5⟩ := Cond.arrayOver_spec (hts _ xw_ao4)
      exact ⟨c, fun _ => ⟨fun n z => ⟨fun k h => (by cases h), k, h3, comp, h4⟩, k, comp, h3, h4, h1, h5⟩⟩
    | 5 =>
      obtain ⟨comp, c, k, h1, -, h3, h4, h5⟩ := Cond.arrayOver_spec (hts _ xw_ao5)
      exact ⟨c, fun _ => ⟨fun n z => ⟨fun k h => (by cases h), k, h3, comp, h4⟩, k, comp, h3, h4, h1, h5⟩⟩
    | 6 =>
      obtain ⟨comp, c, k, h1, -, h3, h4, h5⟩ := Cond.arrayOver_spec (hts _ xw_ao6)
      exact ⟨c, fun _ => ⟨fun n z => ⟨fun k h => (by cases h), k, h3, comp, h4⟩, k, comp, h3, h4, h1, h5⟩⟩
    | t + 7 => exact ⟨0, fun h => absurd h (by omega)⟩
  exact ⟨fun t => Classical.choose (h t), fun t ht => Classical.choose_spec (h t) ht⟩
theorem xG_spec {a : Nat} (h : a < 14) : Cond.castable (xcn a) "java/lang/Object" ∈ lw_tbl := by
  obtain ⟨p, hp⟩ := xzip1 (ps := xGp) (by decide +kernel) (List.mem_range.mpr h)
  have hp := List.all_eq_true.mp xG_1 _ hp
  exact xat_mem hp
theorem xnest_spec {q : Nat × Nat × Nat × Nat} (h : q ∈ xML) (h3 : q.2.2.2 = 3) : Cond.methodLinkNest (xcn q.1) q.2.1 (xname q.2.2.1) "RangeHouse" ∈ lw_tbl := by
  obtain ⟨p, hp⟩ := xzip1 xML_0 h
  have hp := List.all_eq_true.mp xML_1 _ hp
  have hb : Nat.beq q.2.2.2 3 = true := by rw [h3]; rfl
  simp only [xMLw, hb, cond_true] at hp
  exact xat_mem hp
abbrev xstt : Term := Jvm.Term.static "java/util/ArrayList" "DEFAULTCAPACITY_EMPTY_ELEMENTDATA" "[Ljava/lang/Object;"
/-- the context at the law's entry -/
theorem xentry {p : Program} {s : State} {m : MethodId} {meth : Method} {c : Code} {b L : Nat} {xs : Nat → Int32} (C0 : lw_At p s m meth c b L xs) : ∃ (D : va_G) (ac : Nat → ClassId) (T0 MI : Nat), xCx D ac s.heap.size T0 MI b L xs s ∧ T0 < s.heap.size ∧ b ≠ T0 := by
  obtain ⟨hx, hb, hr, hml, hown, hts, hX, hbl, hlocks, hgv⟩ := C0
  have hg : ∀ w ∈ lw_good, w.before #[Value.ref b] s = true := fun w hw => hts w (lw_good_sub w hw)
  obtain ⟨dC, dI, hK⟩ := xknown hg
  obtain ⟨ac, hA⟩ := xarrays hts
  have hs := flat_of_before _ hgv
  have h1 : (Cond.exactly xstt "[Ljava/lang/Object;").before #[Value.ref b] s = true := hs _ (by decide +kernel)
  have h2 : (Cond.arrayOf xstt (.object "java/lang/Object")).before #[Value.ref b] s = true := hs _ (by decide +kernel)
  have h3 : (Cond.eq (.length xstt) (.int 0)).before #[Value.ref b] s = true := hs _ (by decide +kernel)
  have h4 : (Cond.isRef (.mirror "[Ljava/lang/Object;")).before #[Value.ref b] s = true := hs _ (by decide +kernel)
  obtain ⟨T0, c0, cell, k0, e1, -, e3, -, -, -, -⟩ := Cond.exactly_spec h1
  obtain ⟨e4, -⟩ := Cond.arrayOf_spec h2 e1 e3
  have hT : T0 < s.heap.size := (Array.getElem?_eq_some_iff.mp e3).1
  obtain ⟨y, e5, e6⟩ := Cond.eq_one h3
  obtain ⟨a', cell', e7, e8, e9⟩ := Term.length_spec e5
  cases e1.symm.trans e7
  obtain ⟨e10, -, -, -⟩ := State.arrayAt?_spec e8
  cases e3.symm.trans e10
  have hlen : cell.slots.size.toInt32 = 0 := by
    have : (Term.int 0).eval #[Value.ref b] s none [] s = some (.int 0) := rfl
    rw [this] at e6
    exact (Value.int.inj ((Option.some.inj e6).trans e9)).symm
  obtain ⟨MI, hMi⟩ := va_Mi.of h4
  have hne : b ≠ T0 := by
    intro e
    subst e
    obtain ⟨scr, g1, g2, -⟩ := hX
    cases g1.symm.trans e3
    obtain ⟨-, k1, hk1, comp1, hkk1⟩ := g2
    obtain ⟨-, k2, hk2, comp2, hkk2⟩ := e4
    cases hk1.symm.trans hk2
    rw [hkk1] at hkk2
    cases hkk2
  refine ⟨(dC, dI), ac, T0, MI, ⟨Nat.le_refl _, ⟨hK, fun k q hq => ?_⟩, fun q hq h3 => va_Nw.of rfl (hts _ (xnest_spec hq h3)), fun k hk => va_Nw.of rfl (hts _ (xG_spec hk)), fun t ht => ?_, va_Dc.of (hts _ xw_gc2), hMi, ?_, ⟨hT, cell, e3, e4, hlen⟩, hbl, hX⟩, hT, hne⟩
  · have hk : k < 7 := by
      have := (List.getElem?_eq_some_iff.mp hq).1
      simpa [xtys] using this
    rw [xtys_at hk] at hq
    cases hq
    exact hA k hk
  · obtain ⟨-, t1, t2⟩ := xty_R ht
    match t, t1, t2 with
    | 3, _, _ => exact va_AO.of (hts _ xw_ao3)
    | 4, _, _ => exact va_AO.of (hts _ xw_ao4)
    | 5, _, _ => exact va_AO.of (hts _ xw_ao5)
    | 6, _, _ => exact va_AO.of (hts _ xw_ao6)
    | k + 7, _, h => exact absurd h (by omega)
  · exact va_Zof (hts _ xw_st2) (hts _ (lw_good_sub _ (xN_spec (a := 13) (by decide)))) e1 (fun a ha h => by
      have : s.heap.size ≤ a := h
      omega)
set_option maxHeartbeats 4000000 in
/-- the law's walk, out of its run -/
theorem whole_start_open (hlaw : xLawOk) {p : Program} {e : Env} {s : State} {m : MethodId} {below : List Frame} {meth : Method} {c : Code} (l : Launch) {b L : Nat} {xs : Nat → Int32} (hL : L ≤ 4096) (C0 : lw_At p s m meth c b L xs) : W p l e room_1 s m #[Value.ref b] below meth c s.heap [] 0 0 (lw_Z below #[Value.ref b] s) (entryFrame m ([Value.ref b] : List Value).toArray 4) := by
  obtain ⟨D, ac, T0, MI, hC, hT, hne⟩ := xentry C0
  obtain ⟨hx, hb, hr, hml, hown, hts, hX, hbl, hlocks, hgv⟩ := C0
  obtain ⟨M', hrun, hc1', hc2'⟩ := hlaw s.heap.size T0 MI b L xs hT hbl hne hL
  have hc1 : M'.1 - s.heap.size ≤ room_1.cells := Nat.le_trans hc1' (by decide)
  have hc2 : M'.2.1 - 0 ≤ room_1.slots := Nat.le_trans hc2' (by decide)
  obtain ⟨n, hrun⟩ := xZ_run hrun
  have hF : xFr p room_1 s m #[Value.ref b] meth c D ac s.heap.size T0 MI b L xs 222 := ⟨hx, hb, hml, hown, fun w hw => hts w (lw_good_sub w hw), hC, fun h => absurd h (by decide), by decide, by decide⟩
  have hR : xRep D ac s.heap.size (xFo T0 b L xs) (xM0 s.heap.size T0 b L xs) s.heap := by
    refine ⟨rfl, Nat.le_refl _, fun k q h => ?_, fun a ha => ?_, fun a ha => ?_, fun a ha => ?_⟩
    · simp [xWs, xM0, va_pl] at h
    · show (if a < s.heap.size then _ else _) = _
      rw [if_pos ha]
    · show (if a < s.heap.size then _ else _) = _
      have ha : s.heap.size ≤ a := ha
      rw [if_neg (by omega)]
    · show xtOk (if a < s.heap.size then _ else _)
      rw [if_neg (by omega)]
      trivial
  have hret : xRet p l e room_1 s m #[Value.ref b] below meth c (lw_Z below #[Value.ref b] s) D ac s.heap.size T0 b L xs 222 (xM0 s.heap.size T0 b L xs) (some (vi 1)) M' := by
    intro H locs ls pc ins a2 b3 c3 hro hk hd hR1 hS1
    refine va_forget (fun q hq => hS1.2.2 q hq) ?_
    refine W.widen (k := room_1.cells) (n := room_1.slots) hc1 hc2 ?_
    unfold xRetOk at hro
    split at hro
    · rename_i heq
      cases heq
      exact lw_ret hx hb hr hlocks hd
    · rename_i heq
      cases heq
    · rename_i heq
      cases heq
    · rename_i heq
      cases heq
    · cases hro
  have hw := xsound l D ac s.heap.size T0 MI b L xs n p e room_1 s m _ below meth c _ 222 (xM0 s.heap.size T0 b L xs) (some (vi 1)) M' (by decide) hF rfl hc1 hc2 hret 0 _ _ _ hrun
  have hl := lv_entry ([.ref b] : List Value) (n := 4) (Nat.le_of_ble_eq_true rfl)
  have hl2 : lv_has _ 4 (xlv [some (vr (some b)), none, none, none]) := hl
  have hw2 := hw s.heap [] _ hl2 hR va_S.rf (Nat.le_refl _) (Nat.le_refl _)
  rw [Nat.sub_self, Nat.sub_self] at hw2
  rw [lg_entry_eq]
  exact hw2
