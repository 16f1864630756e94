/-! what a step uses of its continuation; the fixed point of a step -/
abbrev xQ : Type := Nat × Nat × xL × List xV × xM
def xap (K : xK) (q : xQ) : xR := K q.1 q.2.1 q.2.2.1 q.2.2.2.1 q.2.2.2.2
def xSup (K : xK) (F : xK → xR) (r : Option xV × xM) : Prop := ∃ S : List (xQ × (Option xV × xM)), (∀ q ∈ S, xap K q.1 = some q.2) ∧ ∀ K', (∀ q ∈ S, xap K' q.1 = some q.2) → F K' = some r
theorem xSup.one {K : xK} {F : xK → xR} {r : Option xV × xM} {mi pc : Nat} {lv : xL} {st : List xV} {M : xM} (h : K mi pc lv st M = some r) (hF : ∀ K' : xK, K' mi pc lv st M = some r → F K' = some r) : xSup K F r :=
  ⟨[((mi, pc, lv, st, M), r)], fun q hq => by rw [List.mem_singleton.mp hq]; exact h, fun K' h' => hF K' (h' _ (List.mem_singleton.mpr rfl))⟩
theorem xSup.two {K : xK} {F : xK → xR} {r r1 : Option xV × xM} {mi pc mi1 pc1 : Nat} {lv lv1 : xL} {st st1 : List xV} {M M1 : xM} (h1 : K mi1 pc1 lv1 st1 M1 = some r1) (h : K mi pc lv st M = some r) (hF : ∀ K' : xK, K' mi1 pc1 lv1 st1 M1 = some r1 → K' mi pc lv st M = some r → F K' = some r) : xSup K F r :=
  ⟨[((mi1, pc1, lv1, st1, M1), r1), ((mi, pc, lv, st, M), r)], fun q hq => by
    rcases List.mem_cons.mp hq with rfl | hq
    · exact h1
    · rw [List.mem_singleton.mp hq]; exact h, fun K' h' => hF K' (h' _ List.mem_cons_self) (h' _ (List.mem_cons_of_mem _ (List.mem_singleton.mpr rfl)))⟩
theorem xSup.zero {K : xK} {F : xK → xR} {r : Option xV × xM} (hF : ∀ K' : xK, F K' = some r) : xSup K F r := ⟨[], fun q hq => absurd hq List.not_mem_nil, fun K' _ => hF K'⟩
theorem xbind_of {α β : Type} {o : Option α} {f : α → Option β} {a : α} {v : β} (h1 : o = some a) (h2 : f a = some v) : o.bind f = some v := by rw [h1]; exact h2
theorem xcond_of {β : Type} {c : Bool} {x : Option β} {v : β} (h1 : c = true) (h2 : x = some v) : (bif c then x else none) = some v := by rw [h1]; exact h2
theorem xcall_sup {K : xK} {mi pc : Nat} {lv : xL} {rest : List xV} {M : xM} {a rt : Nat} {As : List xV} {r : Option xV × xM} (h : xcall K mi pc lv rest M a rt As = some r) {F : xK → xR} (hF : ∀ K' : xK, xcall K' mi pc lv rest M a rt As = some r → F K' = some r) : xSup K F r := by
  unfold xcall at h
  obtain ⟨h1, h2⟩ := xcond h
  obtain ⟨⟨v1, M1⟩, h3, h4⟩ := xbind h2
  have key : ∃ st, K mi (pc + 3) lv st M1 = some r ∧ ∀ K' : xK, K' mi (pc + 3) lv st M1 = some r → xback K' mi (pc + 3) lv rest rt (v1, M1) = some r := by
    unfold xback at h4
    split at h4
    · obtain ⟨x, h5, h6⟩ := xbind h4
      exact ⟨_, h6, fun K' h7 => xbind_of h5 h7⟩
    · obtain ⟨x, h5, h6⟩ := xbind h4
      exact ⟨_, h6, fun K' h7 => xbind_of h5 h7⟩
    · obtain ⟨h5, h6⟩ := xcond h4
      exact ⟨_, h6, fun K' h7 => xcond_of h5 h7⟩
    · rename_i n1 n2 n3
      obtain ⟨x, h5, h6⟩ := xbind h4
      refine ⟨_, h6, fun K' h7 => ?_⟩
      unfold xback
      split
      · exact absurd rfl n1
      · exact absurd rfl n2
      · exact absurd rfl n3
      · exact xbind_of h5 h7
  obtain ⟨st, h5, h6⟩ := key
  exact xSup.two h3 h5 (fun K' g1 g2 => hF K' (xcond_of h1 (xbind_of g1 (h6 K' g2))))
theorem xbr_sup {K : xK} {op : ClassFile.Cond} {x y : Int32} {mi p1 p2 : Nat} {lv : xL} {st : List xV} {M : xM} {r : Option xV × xM} (h : xbr op x y (K mi p1 lv st M) (K mi p2 lv st M) = some r) {F : xK → xR} (hF : ∀ K' : xK, xbr op x y (K' mi p1 lv st M) (K' mi p2 lv st M) = some r → F K' = some r) : xSup K F r := by
  unfold xbr at h
  cases op <;> dsimp only at h <;> split at h <;> rename_i hc <;> first | exact xSup.one h (fun K' h' => hF K' (by unfold xbr; dsimp only; rw [if_pos hc]; exact h')) | exact xSup.one h (fun K' h' => hF K' (by unfold xbr; dsimp only; rw [if_neg hc]; exact h'))
theorem xexec_sup {T0 MI : Nat} {K : xK} {mi pc : Nat} {lv : xL} {st : List xV} {M : xM} {R9 : Option xV × xM} {a b3 c3 : Nat} {ins : Instr} (h : xexec T0 MI K mi pc lv st M ins a b3 c3 = some R9) : xSup K (fun K' => xexec T0 MI K' mi pc lv st M ins a b3 c3) R9 := by
  cases ins
  case aconst_null =>
    exact xSup.one h (fun K' g => g)
  case iconst =>
    exact xSup.one h (fun K' g => g)
  case lconst =>
    exact xSup.one h (fun K' g => g)
  case bipush =>
    exact xSup.one h (fun K' g => g)
  case sipush =>
    exact xSup.one h (fun K' g => g)
  case goto =>
    exact xSup.one h (fun K' g => g)
  case getstatic =>
    exact xSup.one h (fun K' g => g)
  case iload_n =>
    obtain ⟨x, h1, h2⟩ := xbind h
    exact xSup.one h2 (fun K' g => xbind_of h1 g)
  case iload =>
    obtain ⟨x, h1, h2⟩ := xbind h
    exact xSup.one h2 (fun K' g => xbind_of h1 g)
  case lload_n =>
    obtain ⟨x, h1, h2⟩ := xbind h
    exact xSup.one h2 (fun K' g => xbind_of h1 g)
  case lload =>
    obtain ⟨x, h1, h2⟩ := xbind h
    exact xSup.one h2 (fun K' g => xbind_of h1 g)
  case aload_n =>
    obtain ⟨x, h1, h2⟩ := xbind h
    exact xSup.one h2 (fun K' g => xbind_of h1 g)
  case aload =>
    obtain ⟨x, h1, h2⟩ := xbind h
    exact xSup.one h2 (fun K' g => xbind_of h1 g)
  case iinc =>
    obtain ⟨x, h1, h2⟩ := xbind h
    exact xSup.one h2 (fun K' g => xbind_of h1 g)
  case istore_n =>
    obtain ⟨x, r, rfl, h2⟩ := xp1I_some h
    exact xSup.one h2 (fun K' g => g)
  case istore =>
    obtain ⟨x, r, rfl, h2⟩ := xp1I_some h
    exact xSup.one h2 (fun K' g => g)
  case ineg =>
    obtain ⟨x, r, rfl, h2⟩ := xp1I_some h
    exact xSup.one h2 (fun K' g => g)
  case i2l =>
    obtain ⟨x, r, rfl, h2⟩ := xp1I_some h
    exact xSup.one h2 (fun K' g => g)
  case astore_n =>
    obtain ⟨x, r, rfl, h2⟩ := xp1R_some h
    exact xSup.one h2 (fun K' g => g)
  case astore =>
    obtain ⟨x, r, rfl, h2⟩ := xp1R_some h
    exact xSup.one h2 (fun K' g => g)
  case lstore =>
    obtain ⟨x, r, rfl, h2⟩ := xp1L_some h
    exact xSup.one h2 (fun K' g => g)
  case iadd =>
    obtain ⟨x, y, r, rfl, h2⟩ := xp2I_some h
    exact xSup.one h2 (fun K' g => g)
  case isub =>
    obtain ⟨x, y, r, rfl, h2⟩ := xp2I_some h
    exact xSup.one h2 (fun K' g => g)
  case imul =>
    obtain ⟨x, y, r, rfl, h2⟩ := xp2I_some h
    exact xSup.one h2 (fun K' g => g)
  case iand =>
    obtain ⟨x, y, r, rfl, h2⟩ := xp2I_some h
    exact xSup.one h2 (fun K' g => g)
  case ixor =>
    obtain ⟨x, y, r, rfl, h2⟩ := xp2I_some h
    exact xSup.one h2 (fun K' g => g)
  case ishl =>
    obtain ⟨x, y, r, rfl, h2⟩ := xp2I_some h
    exact xSup.one h2 (fun K' g => g)
  case ishr =>
    obtain ⟨x, y, r, rfl, h2⟩ := xp2I_some h
    exact xSup.one h2 (fun K' g => g)
  case iushr =>
    obtain ⟨x, y, r, rfl, h2⟩ := xp2I_some h
    exact xSup.one h2 (fun K' g => g)
  case ladd =>
    obtain ⟨x, y, r, rfl, h2⟩ := xp2L_some h
    exact xSup.one h2 (fun K' g => g)
  case land =>
    obtain ⟨x, y, r, rfl, h2⟩ := xp2L_some h
    exact xSup.one h2 (fun K' g => g)
  case lor =>
    obtain ⟨x, y, r, rfl, h2⟩ := xp2L_some h
    exact xSup.one h2 (fun K' g => g)
  case lcmp =>
    obtain ⟨x, y, r, rfl, h2⟩ := xp2L_some h
    exact xSup.one h2 (fun K' g => g)
  case lshl =>
    obtain ⟨y, r, rfl, h2⟩ := xp1I_some h
    obtain ⟨x, r, rfl, h3⟩ := xp1L_some h2
    exact xSup.one h3 (fun K' g => g)
  case ldc_w =>
    obtain ⟨h1, h2⟩ := xcond h
    exact xSup.one h2 (fun K' g => xcond_of h1 g)
  case ldc2_w =>
    obtain ⟨h1, h2⟩ := xcond h
    exact xSup.one h2 (fun K' g => xcond_of h1 g)
  case ldc =>
    cases h0 : Nat.beq c3 0 with
    | true =>
      simp only [xexec, h0, cond_true] at h ⊢
      exact xSup.one h (fun K' g => g)
    | false =>
      simp only [xexec, h0, cond_false] at h ⊢
      obtain ⟨h1, h2⟩ := xcond h
      exact xSup.one h2 (fun K' g => xcond_of h1 g)
  case dup =>
    cases st with
    | nil => cases h
    | cons w r =>
      obtain ⟨h1, h2⟩ := xcond h
      exact xSup.one h2 (fun K' g => xcond_of h1 g)
  case pop =>
    cases st with
    | nil => cases h
    | cons w r =>
      obtain ⟨h1, h2⟩ := xcond h
      exact xSup.one h2 (fun K' g => xcond_of h1 g)
  case dup_x1 =>
    cases st with
    | nil => cases h
    | cons w r =>
      cases r with
      | nil => cases h
      | cons w2 r =>
        obtain ⟨h1, h2⟩ := xcond h
        exact xSup.one h2 (fun K' g => xcond_of h1 g)
  case dup2 =>
    cases st with
    | nil => cases h
    | cons w r =>
      cases r with
      | nil => cases h
      | cons w2 r =>
        obtain ⟨h1, h2⟩ := xcond h
        exact xSup.one h2 (fun K' g => xcond_of h1 g)
  case ifCond =>
    obtain ⟨x, r, rfl, h2⟩ := xp1I_some h
    exact xbr_sup h2 (fun K' g => g)
  case if_icmp =>
    obtain ⟨x, y, r, rfl, h2⟩ := xp2I_some h
    exact xbr_sup h2 (fun K' g => g)
  case if_acmp op off =>
    obtain ⟨y, r, rfl, h2⟩ := xp1R_some h
    obtain ⟨x, r, rfl, h3⟩ := xp1R_some h2
    cases op with
    | eq =>
      dsimp only at h3
      split at h3
      · rename_i hc
        exact xSup.one h3 (fun K' g => (if_pos hc).trans g)
      · rename_i hc
        exact xSup.one h3 (fun K' g => (if_neg hc).trans g)
    | ne =>
      dsimp only at h3
      split at h3
      · rename_i hc
        exact xSup.one h3 (fun K' g => (if_pos hc).trans g)
      · rename_i hc
        exact xSup.one h3 (fun K' g => (if_neg hc).trans g)
  case ifnull =>
    obtain ⟨x, r, rfl, h2⟩ := xp1R_some h
    cases x with
    | none => exact xSup.one h2 (fun K' g => g)
    | some x => exact xSup.one h2 (fun K' g => g)
  case ifnonnull =>
    obtain ⟨x, r, rfl, h2⟩ := xp1R_some h
    cases x with
    | none => exact xSup.one h2 (fun K' g => g)
    | some x => exact xSup.one h2 (fun K' g => g)
  case tableswitch =>
    obtain ⟨x, r, rfl, h2⟩ := xp1I_some h
    try dsimp only at h2
    split at h2
    · rename_i hc
      exact xSup.one h2 (fun K' g => (if_pos hc).trans g)
    · rename_i hc
      obtain ⟨of, h3, h4⟩ := xbind h2
      exact xSup.one h4 (fun K' g => (if_neg hc).trans (xbind_of h3 g))
  case getfield =>
    obtain ⟨pp, r, rfl, h2⟩ := xp1R_some h
    obtain ⟨q, rfl, h3⟩ := xbind h2
    split at h3
    · obtain ⟨x, h4, h5⟩ := xbind h3
      exact xSup.one h5 (fun K' g => xbind_of (f := fun x => K' mi (pc + 3) lv (vl x :: r) M) h4 g)
    · obtain ⟨x, h4, h5⟩ := xbind h3
      exact xSup.one h5 (fun K' g => xbind_of (f := fun x => K' mi (pc + 3) lv (vr x :: r) M) h4 g)
    · rename_i n1 n2
      obtain ⟨x, h4, h5⟩ := xbind h3
      refine xSup.one h5 (fun K' g => ?_)
      simp only [xexec, xp1R, Option.bind_some]
      exact xbind_of h4 g
  case putfield =>
    unfold xexec at h ⊢
    dsimp only at h ⊢
    split at h
    · obtain ⟨x, r, rfl, h2⟩ := xp1L_some h
      obtain ⟨pp, r, rfl, h3⟩ := xp1R_some h2
      obtain ⟨q, rfl, h4⟩ := xbind h3
      obtain ⟨M1, h5, h6⟩ := xbind h4
      exact xSup.one h6 (fun K' g => xbind_of (f := fun M => K' mi (pc + 3) lv r M) h5 g)
    · obtain ⟨x, r, rfl, h2⟩ := xp1R_some h
      obtain ⟨pp, r, rfl, h3⟩ := xp1R_some h2
      obtain ⟨q, rfl, h4⟩ := xbind h3
      obtain ⟨M1, h5, h6⟩ := xbind h4
      exact xSup.one h6 (fun K' g => xbind_of (f := fun M => K' mi (pc + 3) lv r M) h5 g)
    · obtain ⟨x, r, rfl, h2⟩ := xp1I_some h
      obtain ⟨pp, r, rfl, h3⟩ := xp1R_some h2
      obtain ⟨q, rfl, h4⟩ := xbind h3
      obtain ⟨h0, h4⟩ := xcond h4
      obtain ⟨M1, h5, h6⟩ := xbind h4
      exact xSup.one h6 (fun K' g => xcond_of h0 (xbind_of h5 g))
    · rename_i n1 n2 n3
      obtain ⟨x, r, rfl, h2⟩ := xp1I_some h
      obtain ⟨pp, r, rfl, h3⟩ := xp1R_some h2
      obtain ⟨q, rfl, h4⟩ := xbind h3
      obtain ⟨M1, h5, h6⟩ := xbind h4
      refine xSup.one h6 (fun K' g => ?_)
      first
        | exact xbind_of (f := fun M => K' mi (pc + 3) lv r M) h5 g
        | (split
           · exact absurd rfl n1
           · exact absurd rfl n2
           · exact absurd rfl n3
           · exact xbind_of (f := fun M => K' mi (pc + 3) lv r M) h5 g)
  case iaload =>
    obtain ⟨pp, i, r, rfl, h2⟩ := xpA_some h
    obtain ⟨q, rfl, h3⟩ := xbind h2
    obtain ⟨x, h4, h5⟩ := xbind h3
    exact xSup.one h5 (fun K' g => xbind_of h4 g)
  case baload =>
    obtain ⟨pp, i, r, rfl, h2⟩ := xpA_some h
    obtain ⟨q, rfl, h3⟩ := xbind h2
    obtain ⟨x, h4, h5⟩ := xbind h3
    exact xSup.one h5 (fun K' g => xbind_of h4 g)
  case laload =>
    obtain ⟨pp, i, r, rfl, h2⟩ := xpA_some h
    obtain ⟨q, rfl, h3⟩ := xbind h2
    obtain ⟨x, h4, h5⟩ := xbind h3
    exact xSup.one h5 (fun K' g => xbind_of h4 g)
  case aaload =>
    obtain ⟨pp, i, r, rfl, h2⟩ := xpA_some h
    obtain ⟨q, rfl, h3⟩ := xbind h2
    obtain ⟨x, h4, h5⟩ := xbind h3
    exact xSup.one h5 (fun K' g => xbind_of h4 g)
  case iastore =>
    obtain ⟨x, r0, rfl, h1⟩ := xp1I_some h
    obtain ⟨pp, i, r, rfl, h2⟩ := xpA_some h1
    obtain ⟨q, rfl, h3⟩ := xbind h2
    obtain ⟨M1, h4, h5⟩ := xbind h3
    exact xSup.one h5 (fun K' g => xbind_of h4 g)
  case bastore =>
    obtain ⟨x, r0, rfl, h1⟩ := xp1I_some h
    obtain ⟨pp, i, r, rfl, h2⟩ := xpA_some h1
    obtain ⟨q, rfl, h3⟩ := xbind h2
    obtain ⟨M1, h4, h5⟩ := xbind h3
    exact xSup.one h5 (fun K' g => xbind_of h4 g)
  case lastore =>
    obtain ⟨x, r0, rfl, h1⟩ := xp1L_some h
    obtain ⟨pp, i, r, rfl, h2⟩ := xpA_some h1
    obtain ⟨q, rfl, h3⟩ := xbind h2
    obtain ⟨M1, h4, h5⟩ := xbind h3
    exact xSup.one h5 (fun K' g => xbind_of h4 g)
  case aastore =>
    obtain ⟨x, r0, rfl, h1⟩ := xp1R_some h
    obtain ⟨pp, i, r, rfl, h2⟩ := xpA_some h1
    obtain ⟨q, rfl, h3⟩ := xbind h2
    obtain ⟨M1, h4, h5⟩ := xbind h3
    exact xSup.one h5 (fun K' g => xbind_of h4 g)
  case arraylength =>
    obtain ⟨pp, r, rfl, h2⟩ := xp1R_some h
    obtain ⟨q, rfl, h3⟩ := xbind h2
    obtain ⟨x, h4, h5⟩ := xbind h3
    exact xSup.one h5 (fun K' g => xbind_of h4 g)
  case new =>
    obtain ⟨h1, h2⟩ := xcond h
    exact xSup.one h2 (fun K' g => xcond_of h1 g)
  case newarray =>
    obtain ⟨n, r, rfl, h2⟩ := xp1I_some h
    obtain ⟨M1, h3, h4⟩ := xbind h2
    exact xSup.one h4 (fun K' g => xbind_of h3 g)
  case anewarray =>
    obtain ⟨n, r, rfl, h2⟩ := xp1I_some h
    obtain ⟨M1, h3, h4⟩ := xbind h2
    exact xSup.one h4 (fun K' g => xbind_of h3 g)
  case checkcast =>
    obtain ⟨h0, h1⟩ := xcond h
    obtain ⟨pp, r, rfl, h2⟩ := xp1R_some h1
    cases pp with
    | none => exact xSup.one h2 (fun K' g => xcond_of h0 g)
    | some q =>
      obtain ⟨h3, h4⟩ := xcond h2
      exact xSup.one h4 (fun K' g => xcond_of h0 (xcond_of h3 g))
  case invokevirtual =>
    cases h0 : Nat.beq c3 52 with
    | true =>
      simp only [xexec, h0, cond_true] at h ⊢
      obtain ⟨pp, r, rfl, h2⟩ := xp1R_some h
      obtain ⟨q, rfl, h3⟩ := xbind h2
      obtain ⟨h4, h5⟩ := xcond h3
      exact xSup.one h5 (fun K' g => xcond_of h4 g)
    | false =>
      simp only [xexec, h0, cond_false] at h ⊢
      obtain ⟨h1, h2⟩ := xcond h
      obtain ⟨pp, r, hdr, h3⟩ := xp1R_some h2
      obtain ⟨q, rfl, h4⟩ := xbind h3
      obtain ⟨h5, h6⟩ := xcond h4
      exact xcall_sup h6 (fun K' g => xcond_of h1 (by rw [hdr]; exact xcond_of h5 g))
  case invokespecial =>
    cases h0 : Nat.beq c3 50 with
    | true =>
      simp only [xexec, h0, cond_true] at h ⊢
      obtain ⟨pp, r, rfl, h2⟩ := xp1R_some h
      obtain ⟨q, rfl, h3⟩ := xbind h2
      obtain ⟨h4, h5⟩ := xcond h3
      exact xSup.one h5 (fun K' g => xcond_of h4 g)
    | false =>
      simp only [xexec, h0, cond_false] at h ⊢
      obtain ⟨h1, h2⟩ := xcond h
      obtain ⟨pp, r, hdr, h3⟩ := xp1R_some h2
      obtain ⟨q, rfl, h4⟩ := xbind h3
      exact xcall_sup h4 (fun K' g => xcond_of h1 (by rw [hdr]; exact g))
  case invokestatic =>
    cases h0 : Nat.beq c3 51 with
    | true =>
      simp only [xexec, h0, cond_true] at h ⊢
      obtain ⟨n, r1, rfl, h2⟩ := xp1I_some h
      obtain ⟨p1, dp, r2, rfl, h3⟩ := xpA_some h2
      obtain ⟨a1, rfl, h4⟩ := xbind h3
      obtain ⟨p0, sp, r, rfl, h5⟩ := xpA_some h4
      obtain ⟨a0, rfl, h6⟩ := xbind h5
      obtain ⟨h7, h8⟩ := xcond h6
      obtain ⟨M1, h9, h10⟩ := xbind h8
      exact xSup.one h10 (fun K' g => xcond_of h7 (xbind_of h9 g))
    | false =>
      cases h53 : Nat.beq c3 53 with
      | true =>
        simp only [xexec, h0, h53, cond_true, cond_false] at h ⊢
        obtain ⟨x, y, r, rfl, h2⟩ := xp2I_some h
        obtain ⟨h3, h4⟩ := xcond h2
        exact xSup.one h4 (fun K' g => xcond_of h3 g)
      | false =>
        cases h54 : Nat.beq c3 54 with
        | true =>
          simp only [xexec, h0, h53, h54, cond_true, cond_false] at h ⊢
          obtain ⟨x, y, r, rfl, h2⟩ := xp2I_some h
          obtain ⟨h3, h4⟩ := xcond h2
          exact xSup.one h4 (fun K' g => xcond_of h3 g)
        | false =>
          simp only [xexec, h0, h53, h54, cond_false] at h ⊢
          obtain ⟨h3, h4⟩ := xcond h
          exact xcall_sup h4 (fun K' g => xcond_of h3 g)
  case ireturn =>
    exact xSup.zero (fun K' => h)
  case lreturn =>
    exact xSup.zero (fun K' => h)
  case areturn =>
    exact xSup.zero (fun K' => h)
  case return_ =>
    exact xSup.zero (fun K' => h)
  all_goals exact nomatch (h : (none : xR) = some R9)
theorem xstep_sup {T0 MI : Nat} {K : xK} {mi pc : Nat} {lv : xL} {st : List xV} {M : xM} {r : Option xV × xM} (h : xstep T0 MI K mi pc lv st M = some r) : xSup K (fun K' => xstep T0 MI K' mi pc lv st M) r := by
  unfold xstep at h ⊢
  split at h
  · cases h
  · exact xexec_sup h
theorem xrun_more (T0 MI : Nat) : ∀ (n : Nat) (q : xQ) (r : Option xV × xM), xap (xrun T0 MI n) q = some r → xap (xrun T0 MI (n + 1)) q = some r
  | 0, q, r, h => by cases h
  | n + 1, q, r, h => by
    have h1 : xstep T0 MI (xrun T0 MI n) q.1 q.2.1 q.2.2.1 q.2.2.2.1 q.2.2.2.2 = some r := h
    obtain ⟨S, h2, h3⟩ := xstep_sup h1
    exact h3 _ (fun q hq => xrun_more T0 MI n _ _ (h2 q hq))
theorem xrun_le (T0 MI : Nat) {n k : Nat} (hk : n ≤ k) {q : xQ} {r : Option xV × xM} (h : xap (xrun T0 MI n) q = some r) : xap (xrun T0 MI k) q = some r := by
  obtain ⟨d, rfl⟩ := Nat.le.dest hk
  induction d with
  | zero => exact h
  | succ d ih => exact xrun_more T0 MI _ _ _ (ih (Nat.le_add_right _ _))
/-- the run without a count of steps -/
noncomputable def xZ (T0 MI : Nat) : xK := fun mi pc lv st M => match Classical.propDecidable (∃ r, ∃ n, xrun T0 MI n mi pc lv st M = some r) with
  | .isTrue h => some (Classical.choose h)
  | .isFalse _ => none
theorem xZ_of {T0 MI n mi pc : Nat} {lv : xL} {st : List xV} {M : xM} {r : Option xV × xM} (h : xrun T0 MI n mi pc lv st M = some r) : xZ T0 MI mi pc lv st M = some r := by
  have hex : ∃ r, ∃ n, xrun T0 MI n mi pc lv st M = some r := ⟨r, n, h⟩
  have e : xZ T0 MI mi pc lv st M = some (Classical.choose hex) := by
    unfold xZ
    split
    · rfl
    · rename_i hn _
      exact absurd hex hn
  rw [e]
  obtain ⟨n2, h2⟩ := Classical.choose_spec hex
  have h3 := xrun_le T0 MI (Nat.le_max_left n n2) (q := (mi, pc, lv, st, M)) h
  have h4 := xrun_le T0 MI (Nat.le_max_right n n2) (q := (mi, pc, lv, st, M)) h2
  exact h4.symm.trans h3
theorem xZ_run {T0 MI mi pc : Nat} {lv : xL} {st : List xV} {M : xM} {r : Option xV × xM} (h : xZ T0 MI mi pc lv st M = some r) : ∃ n, xrun T0 MI n mi pc lv st M = some r := by
  by_cases hex : ∃ r, ∃ n, xrun T0 MI n mi pc lv st M = some r
  · obtain ⟨r2, n, h2⟩ := hex
    have h3 := xZ_of h2
    rw [h] at h3
    cases h3
    exact ⟨n, h2⟩
  · exfalso
    have e : xZ T0 MI mi pc lv st M = none := by
      unfold xZ
      split
      · rename_i hn _
        exact absurd hn hex
      · rfl
    rw [e] at h
    cases h
theorem xrun_sup {T0 MI : Nat} : ∀ (S : List (xQ × (Option xV × xM))), (∀ q ∈ S, xap (xZ T0 MI) q.1 = some q.2) → ∃ n, ∀ q ∈ S, xap (xrun T0 MI n) q.1 = some q.2
  | [], _ => ⟨0, fun q hq => absurd hq List.not_mem_nil⟩
  | q :: S, h => by
    obtain ⟨n1, h1⟩ := xZ_run (h q List.mem_cons_self)
    obtain ⟨n2, h2⟩ := xrun_sup S (fun q hq => h q (List.mem_cons_of_mem _ hq))
    refine ⟨max n1 n2, fun q2 hq => ?_⟩
    rcases List.mem_cons.mp hq with rfl | hq
    · exact xrun_le T0 MI (Nat.le_max_left _ _) h1
    · exact xrun_le T0 MI (Nat.le_max_right _ _) (h2 q2 hq)
/-- THE FIXED POINT -/
theorem xZ_eq (T0 MI : Nat) : xZ T0 MI = xstep T0 MI (xZ T0 MI) := by
  funext mi pc lv st M
  cases hr : xstep T0 MI (xZ T0 MI) mi pc lv st M with
  | some r =>
    obtain ⟨S, h2, h3⟩ := xstep_sup hr
    obtain ⟨n, h4⟩ := xrun_sup S h2
    exact xZ_of (n := n + 1) (h3 _ h4)
  | none =>
    cases he : xZ T0 MI mi pc lv st M with
    | none => rfl
    | some r =>
      exfalso
      obtain ⟨n, h1⟩ := xZ_run he
      cases n with
      | zero => cases h1
      | succ n =>
        obtain ⟨S, h2, h3⟩ := xstep_sup (K := xrun T0 MI n) h1
        have h4 : xstep T0 MI (xZ T0 MI) mi pc lv st M = some r := h3 (xZ T0 MI) (fun q hq => xZ_of (h2 q hq))
        rw [hr] at h4
        cases h4
def xit (T0 MI : Nat) : Nat → xK → xK := fun n K => Nat.rec (motive := fun _ => xK) K (fun _ K => xstep T0 MI K) n
theorem xZ_it (T0 MI : Nat) : ∀ n, xZ T0 MI = xit T0 MI n (xZ T0 MI)
  | 0 => rfl
  | n + 1 => by
    have h := xZ_it T0 MI n
    show xZ T0 MI = xstep T0 MI (xit T0 MI n (xZ T0 MI))
    rw [← h]
    exact xZ_eq T0 MI
theorem xZ_k (T0 MI n : Nat) (mi pc : Nat) (lv : xL) (st : List xV) (M : xM) : xZ T0 MI mi pc lv st M = xit T0 MI n (xZ T0 MI) mi pc lv st M := by
  rw [← xZ_it T0 MI n]
