/-! SOUNDNESS of a run -/
theorem xnth_mem : ∀ {l : List (List xRow)} {k : Nat} {r : xRow}, r ∈ xnth l k → ∃ ch ∈ l, r ∈ ch
  | [], _, _, h => by simp [xnth] at h
  | a :: _, 0, _, h => ⟨a, List.mem_cons_self, h⟩
  | _ :: l, k + 1, r, h => by
    obtain ⟨ch, h1, h2⟩ := xnth_mem (l := l) (k := k) h
    exact ⟨ch, List.mem_cons_of_mem _ h1, h2⟩
theorem xfind_mem : ∀ {l : List xRow} {pc : Nat} {ins : Instr} {a b c : Nat}, xfind l pc = some (ins, a, b, c) → ∃ len, (pc, ins, len, a, b, c) ∈ l
  | [], _, _, _, _, _, h => by cases h
  | (q, i2, l2, a2, b2, c2) :: r, pc, ins, a, b, c, h => by
    unfold xfind at h
    cases hq : Nat.beq q pc with
    | true =>
      rw [hq, cond_true] at h
      have e := Nat.eq_of_beq_eq_true hq
      cases h
      subst e
      exact ⟨l2, List.mem_cons_self⟩
    | false =>
      rw [hq, cond_false] at h
      obtain ⟨len, h1⟩ := xfind_mem h
      exact ⟨len, List.mem_cons_of_mem _ h1⟩
theorem xfetch_ok {mi pc : Nat} {ins : Instr} {a b c : Nat} (hk : xmOk mi = true) (h : xfetch mi pc = some (ins, a, b, c)) : ∃ len, decode (xbytes mi) pc = .ok (ins, len) ∧ (xsw ins = true ∨ len = xlen ins) ∧ xlks mi pc ins a b c = true := by
  obtain ⟨len, h1⟩ := xfind_mem h
  obtain ⟨ch, h2, h3⟩ := xnth_mem h1
  have h4 := List.all_eq_true.mp (List.all_eq_true.mp hk ch h2) _ h3
  simp only [xrowOk, Bool.and_eq_true, Bool.or_eq_true] at h4
  exact ⟨len, of_decide_eq_true h4.1, h4.2.1.imp id Nat.eq_of_beq_eq_true, h4.2.2⟩
/-- what comes behind a return -/
def xRet (p : Program) (l : Launch) (e : Env) (R : Room) (s : State) (m : MethodId) (args : Array Value) (below : List Frame) (meth : Method) (c : Code) (Q : State → Prop) (D : va_G) (ac : Nat → ClassId) (N0 T0 bS LS : Nat) (xs : Nat → Int32) (mi : Nat) (M0 : xM) (v : Option xV) (M' : xM) : Prop :=
  ∀ (H : Heap) (locs : List Loc) (ls : Array Slot) (pc : Nat) (ins : Instr) (a b3 c3 : Nat), xRetOk ins c3 v → xlks mi pc ins a b3 c3 = true → decode (xbytes mi) pc = .ok (ins, 1) → xRep D ac N0 (xFo T0 bS LS xs) M' H → va_S (xAf N0) s.heap H locs → W p l e R s m args below meth c H locs (M'.1 - M0.1) (M'.2.1 - M0.2.1) Q (F0 m pc ls (v.toList.map xval))
theorem xstep_sound {p : Program} {l : Launch} {e : Env} {R : Room} {s : State} {m : MethodId} {args : Array Value} {below : List Frame} {meth : Method} {c : Code} {Q : State → Prop} {D : va_G} {ac : Nat → ClassId} {N0 T0 MI bS LS : Nat} {xs : Nat → Int32} {K : xK} {mi pc : Nat} {lv : xL} {st : List xV} {M M0 M' : xM} {v : Option xV} (hok : xmOk mi = true) (hF : xFr p R s m args meth c D ac N0 T0 MI bS LS xs mi) (IH : ∀ pc lv st M, K mi pc lv st M = some (v, M') → xWd p l e R s m args below meth c Q D ac N0 T0 bS LS xs mi M0 pc lv st M) (hs0 : s.heap.size = M0.1) (hRc : M'.1 - M0.1 ≤ R.cells) (hRs : M'.2.1 - M0.2.1 ≤ R.slots) (hm : xMono K) (hcl : xCalls K l D ac N0 T0 MI bS LS xs) (hret : xRet p l e R s m args below meth c Q D ac N0 T0 bS LS xs mi M0 v M') (h : xstep T0 MI K mi pc lv st M = some (v, M')) : xWd p l e R s m args below meth c Q D ac N0 T0 bS LS xs mi M0 pc lv st M := by
  unfold xstep at h
  split at h
  · cases h
  · rename_i ins a b3 c3 hf
    obtain ⟨len, hd, hlen, hk⟩ := xfetch_ok hok hf
    cases hr : xisRet ins with
    | true =>
      obtain ⟨e1, e2, e3⟩ := xret_all hr h
      subst e1 e2
      have hl1 : decode (xbytes mi) pc = .ok (ins, 1) := by
        have h1 : xsw ins = false ∧ xlen ins = 1 := by
          cases ins <;> first | exact ⟨rfl, rfl⟩ | cases hr
        rcases hlen with h2 | h2
        · rw [h1.1] at h2
          cases h2
        · rw [h2, h1.2] at hd
          exact hd
      intro H locs ls hl hR hS hm1 hm2
      exact hret H locs ls pc ins a b3 c3 e3 hk hl1 hR hS
    | false =>
      cases ins
      case tableswitch => exact xs_tableswitch hF hd hk IH h
      case aconst_null =>
        rcases hlen with h9 | rfl
        · cases h9
        · exact xs_aconst_null hF hd hk IH h
      case iconst =>
        rcases hlen with h9 | rfl
        · cases h9
        · exact xs_iconst hF hd hk IH h
      case lconst =>
        rcases hlen with h9 | rfl
        · cases h9
        · exact xs_lconst hF hd hk IH h
      case bipush =>
        rcases hlen with h9 | rfl
        · cases h9
        · exact xs_bipush hF hd hk IH h
      case sipush =>
        rcases hlen with h9 | rfl
        · cases h9
        · exact xs_sipush hF hd hk IH h
      case iload_n =>
        rcases hlen with h9 | rfl
        · cases h9
        · exact xs_iload_n hF hd hk IH h
      case iload =>
        rcases hlen with h9 | rfl
        · cases h9
        · exact xs_iload hF hd hk IH h
      case lload_n =>
        rcases hlen with h9 | rfl
        · cases h9
        · exact xs_lload_n hF hd hk IH h
      case lload =>
        rcases hlen with h9 | rfl
        · cases h9
        · exact xs_lload hF hd hk IH h
      case aload_n =>
        rcases hlen with h9 | rfl
        · cases h9
        · exact xs_aload_n hF hd hk IH h
      case aload =>
        rcases hlen with h9 | rfl
        · cases h9
        · exact xs_aload hF hd hk IH h
      case istore_n =>
        rcases hlen with h9 | rfl
        · cases h9
        · exact xs_istore_n hF hd hk IH h
      case istore =>
        rcases hlen with h9 | rfl
        · cases h9
        · exact xs_istore hF hd hk IH h
      case lstore =>
        rcases hlen with h9 | rfl
        · cases h9
        · exact xs_lstore hF hd hk IH h
      case astore_n =>
        rcases hlen with h9 | rfl
        · cases h9
        · exact xs_astore_n hF hd hk IH h
      case astore =>
        rcases hlen with h9 | rfl
        · cases h9
        · exact xs_astore hF hd hk IH h
      case iinc =>
        rcases hlen with h9 | rfl
        · cases h9
        · exact xs_iinc hF hd hk IH h
      case iadd =>
        rcases hlen with h9 | rfl
        · cases h9
        · exact xs_iadd hF hd hk IH h
      case isub =>
        rcases hlen with h9 | rfl
        · cases h9
        · exact xs_isub hF hd hk IH h
      case imul =>
        rcases hlen with h9 | rfl
        · cases h9
        · exact xs_imul hF hd hk IH h
      case iand =>
        rcases hlen with h9 | rfl
        · cases h9
        · exact xs_iand hF hd hk IH h
      case ixor =>
        rcases hlen with h9 | rfl
        · cases h9
        · exact xs_ixor hF hd hk IH h
      case ishl =>
        rcases hlen with h9 | rfl
        · cases h9
        · exact xs_ishl hF hd hk IH h
      case ishr =>
        rcases hlen with h9 | rfl
        · cases h9
        · exact xs_ishr hF hd hk IH h
      case iushr =>
        rcases hlen with h9 | rfl
        · cases h9
        · exact xs_iushr hF hd hk IH h
      case ineg =>
        rcases hlen with h9 | rfl
        · cases h9
        · exact xs_ineg hF hd hk IH h
      case ladd =>
        rcases hlen with h9 | rfl
        · cases h9
        · exact xs_ladd hF hd hk IH h
      case land =>
        rcases hlen with h9 | rfl
        · cases h9
        · exact xs_land hF hd hk IH h
      case lor =>
        rcases hlen with h9 | rfl
        · cases h9
        · exact xs_lor hF hd hk IH h
      case lshl =>
        rcases hlen with h9 | rfl
        · cases h9
        · exact xs_lshl hF hd hk IH h
      case i2l =>
        rcases hlen with h9 | rfl
        · cases h9
        · exact xs_i2l hF hd hk IH h
      case lcmp =>
        rcases hlen with h9 | rfl
        · cases h9
        · exact xs_lcmp hF hd hk IH h
      case dup =>
        rcases hlen with h9 | rfl
        · cases h9
        · exact xs_dup hF hd hk IH h
      case pop =>
        rcases hlen with h9 | rfl
        · cases h9
        · exact xs_pop hF hd hk IH h
      case dup_x1 =>
        rcases hlen with h9 | rfl
        · cases h9
        · exact xs_dup_x1 hF hd hk IH h
      case dup2 =>
        rcases hlen with h9 | rfl
        · cases h9
        · exact xs_dup2 hF hd hk IH h
      case ifCond =>
        rcases hlen with h9 | rfl
        · cases h9
        · exact xs_ifCond hF hd hk IH h
      case if_icmp =>
        rcases hlen with h9 | rfl
        · cases h9
        · exact xs_if_icmp hF hd hk IH h
      case if_acmp =>
        rcases hlen with h9 | rfl
        · cases h9
        · exact xs_if_acmp hF hd hk IH h
      case ifnull =>
        rcases hlen with h9 | rfl
        · cases h9
        · exact xs_ifnull hF hd hk IH h
      case ifnonnull =>
        rcases hlen with h9 | rfl
        · cases h9
        · exact xs_ifnonnull hF hd hk IH h
      case goto =>
        rcases hlen with h9 | rfl
        · cases h9
        · exact xs_goto hF hd hk IH h
      case getfield =>
        rcases hlen with h9 | rfl
        · cases h9
        · exact xs_getfield hF hd hk IH hs0 hRc hRs hm h
      case putfield =>
        rcases hlen with h9 | rfl
        · cases h9
        · exact xs_putfield hF hd hk IH hs0 hRc hRs hm h
      case iaload =>
        rcases hlen with h9 | rfl
        · cases h9
        · exact xs_iaload hF hd hk IH hs0 hRc hRs hm h
      case baload =>
        rcases hlen with h9 | rfl
        · cases h9
        · exact xs_baload hF hd hk IH hs0 hRc hRs hm h
      case laload =>
        rcases hlen with h9 | rfl
        · cases h9
        · exact xs_laload hF hd hk IH hs0 hRc hRs hm h
      case aaload =>
        rcases hlen with h9 | rfl
        · cases h9
        · exact xs_aaload hF hd hk IH hs0 hRc hRs hm h
      case iastore =>
        rcases hlen with h9 | rfl
        · cases h9
        · exact xs_iastore hF hd hk IH hs0 hRc hRs hm h
      case lastore =>
        rcases hlen with h9 | rfl
        · cases h9
        · exact xs_lastore hF hd hk IH hs0 hRc hRs hm h
      case bastore =>
        rcases hlen with h9 | rfl
        · cases h9
        · exact xs_bastore hF hd hk IH hs0 hRc hRs hm h
      case aastore =>
        rcases hlen with h9 | rfl
        · cases h9
        · exact xs_aastore hF hd hk IH hs0 hRc hRs hm h
      case arraylength =>
        rcases hlen with h9 | rfl
        · cases h9
        · exact xs_arraylength hF hd hk IH hs0 hRc hRs hm h
      case new =>
        rcases hlen with h9 | rfl
        · cases h9
        · exact xs_new hF hd hk IH hs0 hRc hRs hm h
      case newarray =>
        rcases hlen with h9 | rfl
        · cases h9
        · exact xs_newarray hF hd hk IH hs0 hRc hRs hm h
      case anewarray =>
        rcases hlen with h9 | rfl
        · cases h9
        · exact xs_anewarray hF hd hk IH hs0 hRc hRs hm h
      case checkcast =>
        rcases hlen with h9 | rfl
        · cases h9
        · exact xs_checkcast hF hd hk IH hs0 hRc hRs hm h
      case getstatic =>
        rcases hlen with h9 | rfl
        · cases h9
        · exact xs_getstatic hF hd hk IH hs0 hRc hRs hm h
      case ldc =>
        rcases hlen with h9 | rfl
        · cases h9
        · exact xs_ldc hF hd hk IH hs0 hRc hRs hm h
      case ldc_w =>
        rcases hlen with h9 | rfl
        · cases h9
        · exact xs_ldc_w hF hd hk IH hs0 hRc hRs hm h
      case ldc2_w =>
        rcases hlen with h9 | rfl
        · cases h9
        · exact xs_ldc2_w hF hd hk IH hs0 hRc hRs hm h
      case invokevirtual =>
        rcases hlen with h9 | rfl
        · cases h9
        · exact xs_invokevirtual hF hd hk IH hs0 hRc hRs hm hcl h
      case invokestatic =>
        rcases hlen with h9 | rfl
        · cases h9
        · exact xs_invokestatic hF hd hk IH hs0 hRc hRs hm hcl h
      case invokespecial =>
        rcases hlen with h9 | rfl
        · cases h9
        · exact xs_invokespecial hF hd hk IH hs0 hRc hRs hm hcl h
      case ireturn => cases hr
      case lreturn => cases hr
      case areturn => cases hr
      case return_ => cases hr
      all_goals exact nomatch (h : (none : xR) = some (v, M'))
/-- a run, in any frame -/
def xAll (l : Launch) (D : va_G) (ac : Nat → ClassId) (N0 T0 MI bS LS : Nat) (xs : Nat → Int32) (n : Nat) : Prop :=
  ∀ (p : Program) (e : Env) (R : Room) (s : State) (m : MethodId) (args : Array Value) (below : List Frame) (meth : Method) (c : Code) (Q : State → Prop) (mi : Nat) (M0 : xM) (v : Option xV) (M' : xM), mi < 223 → xFr p R s m args meth c D ac N0 T0 MI bS LS xs mi → s.heap.size = M0.1 → M'.1 - M0.1 ≤ R.cells → M'.2.1 - M0.2.1 ≤ R.slots → xRet p l e R s m args below meth c Q D ac N0 T0 bS LS xs mi M0 v M' →
    ∀ (pc : Nat) (lv : xL) (st : List xV) (M : xM), xrun T0 MI n mi pc lv st M = some (v, M') → xWd p l e R s m args below meth c Q D ac N0 T0 bS LS xs mi M0 pc lv st M
set_option maxHeartbeats 4000000 in
/-- a contract of every method, out of its run -/
theorem xmet_of {l : Launch} {D : va_G} {ac : Nat → ClassId} {N0 T0 MI bS LS : Nat} {xs : Nat → Int32} {n : Nat} (hA : xAll l D ac N0 T0 MI bS LS xs n) : xCalls (xrun T0 MI n) l D ac N0 T0 MI bS LS xs := by
  intro a As M v M1 hco hpl hcn hA8 h223 h
  have hmono := xrun_mono T0 MI n _ _ _ _ _ _ _ h
  refine Met.ofW (cc := xbytes a) (maxL := (xnums a).1) (ret := xret a) hpl rfl ?_
  intro p e s m args below meth c s₁ B hml hv
  obtain ⟨rfl, hR, hC⟩ := hv
  have hts := atoms_spec (ws := xws a) B.pre
  have hown : s.vm.findClass (xcn (xown a)) = some m.cls := by
    rw [← hcn]
    exact findClass_of_methodNamed B.named
  have hlocks := B.notSynchronized
  have hr := B.returns
  have hF : xFr p (headSpec (xws a) (xrm a (M1.1 - M.1) (M1.2.1 - M.2.1))).room s m ((As.map xval).toArray) meth c D ac N0 T0 MI bS LS xs a := ⟨B.exec, B.bytes, hml, hown, fun w hw => hts w (List.mem_cons_of_mem _ hw), hC, fun h => (name_of_methodNamed B.named B.method).1.trans h, Nat.le_refl _, Nat.le_refl _⟩
  have hret : xRet p l e (headSpec (xws a) (xrm a (M1.1 - M.1) (M1.2.1 - M.2.1))).room s m ((As.map xval).toArray) below meth c (MQ below (xQc D ac N0 T0 bS LS xs v M1) ((As.map xval).toArray) s (M1.1 - M.1) (M1.2.1 - M.2.1) (xAf N0)) D ac N0 T0 bS LS xs a M v M1 := by
    intro H locs ls pc ins a2 b3 c3 hro hk hd hR1 hS1
    unfold xRetOk at hro
    split at hro
    · rename_i x
      cases hc : Nat.beq c3 3 with
      | true =>
        simp only [xlks, hc, cond_true] at hk
        have hx2 := hro hc
        have hna : narrow .boolean (.int x) = .int x := by
          simp only [xbool, Bool.or_eq_true, decide_eq_true_eq] at hx2
          rcases hx2 with rfl | rfl <;> decide
        exact W.zret (ty := .boolean) B.exec B.bytes (hr.trans (of_decide_eq_true hk)) hna (fun t ht hW => ⟨rfl, by rw [ht]; exact hR1, hS1.F ht⟩) hS1.2.2 hd
      | false =>
        simp only [xlks, hc, cond_false] at hk
        exact W.iret B.exec B.bytes (hr.trans (of_decide_eq_true hk)) (fun t ht hW => ⟨rfl, by rw [ht]; exact hR1, hS1.F ht⟩) hS1.2.2 hd
    · exact W.lret B.exec B.bytes (hr.trans (of_decide_eq_true hk)) (fun t ht hW => ⟨rfl, by rw [ht]; exact hR1, hS1.F ht⟩) hS1.2.2 hd
    · rename_i x
      simp only [xlks] at hk
      have hrt : ∃ rt, xret a = some rt ∧ ((∃ n, rt = .object n) ∨ ∃ t, rt = .array t) := by
        split at hk
        · exact ⟨_, ‹_›, Or.inl ⟨_, rfl⟩⟩
        · exact ⟨_, ‹_›, Or.inr ⟨_, rfl⟩⟩
        · cases hk
      obtain ⟨rt, h1, h2⟩ := hrt
      exact W.aret B.exec B.bytes (hr.trans h1) h2 (by cases x <;> first | exact Or.inl rfl | exact Or.inr ⟨_, rfl⟩) (fun t ht hW => ⟨rfl, by rw [ht]; exact hR1, hS1.F ht⟩) hS1.2.2 hd
    · exact W.vret B.exec B.bytes (hr.trans (of_decide_eq_true hk)) (fun t ht hW => ⟨rfl, by rw [ht]; exact hR1, hS1.F ht⟩) hS1.2.2 hd
    · cases hro
  have hw := hA p e _ s m _ below meth c _ a M v M1 h223 hF hR.1 (Nat.le_refl _) (Nat.le_refl _) hret 0 _ _ M h
  have hl := lv_entry (As.map xval) (n := (xnums a).1) (by rw [xcats_sl]; exact hA8)
  have hl := xlocs_has (n := (xnums a).1) hl
  have hw2 := hw s.heap [] _ hl hR va_S.rf (Nat.le_refl _) (Nat.le_refl _)
  rw [Nat.sub_self, Nat.sub_self] at hw2
  rw [lg_entry_eq]
  exact hw2
theorem xsound (l : Launch) (D : va_G) (ac : Nat → ClassId) (N0 T0 MI bS LS : Nat) (xs : Nat → Int32) : ∀ n, xAll l D ac N0 T0 MI bS LS xs n
  | 0 => fun _ _ _ _ _ _ _ _ _ _ _ _ _ _ _ _ _ _ _ _ _ _ _ _ h => by cases h
  | n + 1 => by
    have ih := xsound l D ac N0 T0 MI bS LS xs n
    intro p e R s m args below meth c Q mi M0 v M' h223 hF hs0 hRc hRs hret pc lv st M h
    rw [xrun_succ] at h
    exact xstep_sound (xmo_all mi h223) hF (fun pc lv st M h => ih p e R s m args below meth c Q mi M0 v M' h223 hF hs0 hRc hRs hret pc lv st M h) hs0 hRc hRs (xrun_mono T0 MI n) (xmet_of ih) hret h
