/-! runs only make more -/
theorem xbr_mono {K : xK} (hm : xMono K) {op : ClassFile.Cond} {x y : Int32} {mi p1 p2 : Nat} {lv : xL} {r : List xV} {M M' : xM} {v : Option xV} (h : xbr op x y (K mi p1 lv r M) (K mi p2 lv r M) = some (v, M')) : M.1 ≤ M'.1 ∧ M.2.1 ≤ M'.2.1 := by
  unfold xbr at h
  cases op <;> dsimp only at h <;> split at h <;> exact hm _ _ _ _ _ _ _ h
theorem xcall_mono {K : xK} (hm : xMono K) {mi pc : Nat} {lv : xL} {rest : List xV} {M M' : xM} {a rt : Nat} {As : List xV} {v : Option xV} (h : xcall K mi pc lv rest M a rt As = some (v, M')) : M.1 ≤ M'.1 ∧ M.2.1 ≤ M'.2.1 := by
  obtain ⟨-, -, v1, M1, h1, h2⟩ := xcall_some h
  have h3 := hm _ _ _ _ _ _ _ h1
  have h4 := hm _ _ _ _ _ _ _ h2
  exact ⟨Nat.le_trans h3.1 h4.1, Nat.le_trans h3.2 h4.2⟩
/-- is it a return, and of this kind -/
def xRetOk (ins : Instr) (c3 : Nat) (v : Option xV) : Prop := match ins, v with
  | .ireturn, some (.inl x) => Nat.beq c3 3 = true → xbool x = true
  | .lreturn, some (.inr (.inl _)) => True
  | .areturn, some (.inr (.inr _)) => True
  | .return_, none => True
  | _, _ => False
def xisRet (ins : Instr) : Bool := match ins with
  | .ireturn => true
  | .lreturn => true
  | .areturn => true
  | .return_ => true
  | _ => false
theorem xret_all {T0 MI : Nat} {K : xK} {mi pc : Nat} {lv : xL} {st : List xV} {M M' : xM} {v : Option xV} {a b3 c3 : Nat} {ins : Instr} (hi : xisRet ins = true) (h : xexec T0 MI K mi pc lv st M ins a b3 c3 = some (v, M')) : M' = M ∧ st = v.toList ∧ xRetOk ins c3 v := by
  unfold xisRet at hi
  split at hi
  · unfold xexec at h
    dsimp only at h
    split at h
    · cases hc : Nat.beq c3 3 with
      | true =>
        rw [hc, cond_true] at h
        obtain ⟨h1, h2⟩ := xcond h
        cases h2
        exact ⟨rfl, rfl, fun _ => h1⟩
      | false =>
        rw [hc, cond_false] at h
        cases h
        exact ⟨rfl, rfl, fun h9 => by rw [hc] at h9; cases h9⟩
    · cases h
  · unfold xexec at h
    dsimp only at h
    split at h
    · cases h
      exact ⟨rfl, rfl, trivial⟩
    · cases h
  · unfold xexec at h
    dsimp only at h
    split at h
    · cases h
      exact ⟨rfl, rfl, trivial⟩
    · cases h
  · unfold xexec at h
    dsimp only at h
    split at h
    · cases h
      exact ⟨rfl, rfl, trivial⟩
    · cases h
  · cases hi
theorem xexec_mono {T0 MI : Nat} {K : xK} (hm : xMono K) {mi pc : Nat} {lv : xL} {st : List xV} {M M' : xM} {v : Option xV} {a b3 c3 : Nat} {ins : Instr} (h : xexec T0 MI K mi pc lv st M ins a b3 c3 = some (v, M')) : M.1 ≤ M'.1 ∧ M.2.1 ≤ M'.2.1 := by
  cases ins
  case aconst_null =>
    exact hm _ _ _ _ _ _ _ h
  case iconst =>
    exact hm _ _ _ _ _ _ _ h
  case lconst =>
    exact hm _ _ _ _ _ _ _ h
  case bipush =>
    exact hm _ _ _ _ _ _ _ h
  case sipush =>
    exact hm _ _ _ _ _ _ _ h
  case goto =>
    exact hm _ _ _ _ _ _ _ h
  case getstatic =>
    exact hm _ _ _ _ _ _ _ h
  case iload_n =>
    obtain ⟨x, -, h2⟩ := xbind h
    exact hm _ _ _ _ _ _ _ h2
  case iload =>
    obtain ⟨x, -, h2⟩ := xbind h
    exact hm _ _ _ _ _ _ _ h2
  case lload_n =>
    obtain ⟨x, -, h2⟩ := xbind h
    exact hm _ _ _ _ _ _ _ h2
  case lload =>
    obtain ⟨x, -, h2⟩ := xbind h
    exact hm _ _ _ _ _ _ _ h2
  case aload_n =>
    obtain ⟨x, -, h2⟩ := xbind h
    exact hm _ _ _ _ _ _ _ h2
  case aload =>
    obtain ⟨x, -, h2⟩ := xbind h
    exact hm _ _ _ _ _ _ _ h2
  case iinc =>
    obtain ⟨x, -, h2⟩ := xbind h
    exact hm _ _ _ _ _ _ _ h2
  case istore_n =>
    obtain ⟨x, r, -, h2⟩ := xp1I_some h
    exact hm _ _ _ _ _ _ _ h2
  case istore =>
    obtain ⟨x, r, -, h2⟩ := xp1I_some h
    exact hm _ _ _ _ _ _ _ h2
  case ineg =>
    obtain ⟨x, r, -, h2⟩ := xp1I_some h
    exact hm _ _ _ _ _ _ _ h2
  case i2l =>
    obtain ⟨x, r, -, h2⟩ := xp1I_some h
    exact hm _ _ _ _ _ _ _ h2
  case astore_n =>
    obtain ⟨x, r, -, h2⟩ := xp1R_some h
    exact hm _ _ _ _ _ _ _ h2
  case astore =>
    obtain ⟨x, r, -, h2⟩ := xp1R_some h
    exact hm _ _ _ _ _ _ _ h2
  case lstore =>
    obtain ⟨x, r, -, h2⟩ := xp1L_some h
    exact hm _ _ _ _ _ _ _ h2
  case iadd =>
    obtain ⟨x, y, r, -, h2⟩ := xp2I_some h
    exact hm _ _ _ _ _ _ _ h2
  case isub =>
    obtain ⟨x, y, r, -, h2⟩ := xp2I_some h
    exact hm _ _ _ _ _ _ _ h2
  case imul =>
    obtain ⟨x, y, r, -, h2⟩ := xp2I_some h
    exact hm _ _ _ _ _ _ _ h2
  case iand =>
    obtain ⟨x, y, r, -, h2⟩ := xp2I_some h
    exact hm _ _ _ _ _ _ _ h2
  case ixor =>
    obtain ⟨x, y, r, -, h2⟩ := xp2I_some h
    exact hm _ _ _ _ _ _ _ h2
  case ishl =>
    obtain ⟨x, y, r, -, h2⟩ := xp2I_some h
    exact hm _ _ _ _ _ _ _ h2
  case ishr =>
    obtain ⟨x, y, r, -, h2⟩ := xp2I_some h
    exact hm _ _ _ _ _ _ _ h2
  case iushr =>
    obtain ⟨x, y, r, -, h2⟩ := xp2I_some h
    exact hm _ _ _ _ _ _ _ h2
  case ladd =>
    obtain ⟨x, y, r, -, h2⟩ := xp2L_some h
    exact hm _ _ _ _ _ _ _ h2
  case land =>
    obtain ⟨x, y, r, -, h2⟩ := xp2L_some h
    exact hm _ _ _ _ _ _ _ h2
  case lor =>
    obtain ⟨x, y, r, -, h2⟩ := xp2L_some h
    exact hm _ _ _ _ _ _ _ h2
  case lcmp =>
    obtain ⟨x, y, r, -, h2⟩ := xp2L_some h
    exact hm _ _ _ _ _ _ _ h2
  case lshl =>
    obtain ⟨y, r, -, h2⟩ := xp1I_some h
    obtain ⟨x, r, -, h3⟩ := xp1L_some h2
    exact hm _ _ _ _ _ _ _ h3
  case ldc_w =>
    obtain ⟨-, h2⟩ := xcond h
    exact hm _ _ _ _ _ _ _ h2
  case ldc2_w =>
    obtain ⟨-, h2⟩ := xcond h
    exact hm _ _ _ _ _ _ _ h2
  case ldc =>
    cases h0 : Nat.beq c3 0 with
    | true =>
      simp only [xexec, h0, cond_true] at h
      exact hm _ _ _ _ _ _ _ h
    | false =>
      simp only [xexec, h0, cond_false] at h
      obtain ⟨-, h2⟩ := xcond h
      exact hm _ _ _ _ _ _ _ h2
  case dup =>
    cases st with
    | nil => cases h
    | cons w r =>
      obtain ⟨-, h2⟩ := xcond h
      exact hm _ _ _ _ _ _ _ h2
  case pop =>
    cases st with
    | nil => cases h
    | cons w r =>
      obtain ⟨-, h2⟩ := xcond h
      exact hm _ _ _ _ _ _ _ h2
  case dup_x1 =>
    cases st with
    | nil => cases h
    | cons w r =>
      cases r with
      | nil => cases h
      | cons w2 r =>
        obtain ⟨-, h2⟩ := xcond h
        exact hm _ _ _ _ _ _ _ h2
  case dup2 =>
    cases st with
    | nil => cases h
    | cons w r =>
      cases r with
      | nil => cases h
      | cons w2 r =>
        obtain ⟨-, h2⟩ := xcond h
        exact hm _ _ _ _ _ _ _ h2
  case ifCond =>
    obtain ⟨x, r, -, h2⟩ := xp1I_some h
    exact xbr_mono hm h2
  case if_icmp =>
    obtain ⟨x, y, r, -, h2⟩ := xp2I_some h
    exact xbr_mono hm h2
  case if_acmp op off =>
    obtain ⟨y, r, -, h2⟩ := xp1R_some h
    obtain ⟨x, r, -, h3⟩ := xp1R_some h2
    cases op with
    | eq =>
      dsimp only at h3
      split at h3
      · exact hm _ _ _ _ _ _ _ h3
      · exact hm _ _ _ _ _ _ _ h3
    | ne =>
      dsimp only at h3
      split at h3
      · exact hm _ _ _ _ _ _ _ h3
      · exact hm _ _ _ _ _ _ _ h3
  case ifnull =>
    obtain ⟨x, r, -, h2⟩ := xp1R_some h
    cases x with
    | none => exact hm _ _ _ _ _ _ _ h2
    | some x => exact hm _ _ _ _ _ _ _ h2
  case ifnonnull =>
    obtain ⟨x, r, -, h2⟩ := xp1R_some h
    cases x with
    | none => exact hm _ _ _ _ _ _ _ h2
    | some x => exact hm _ _ _ _ _ _ _ h2
  case tableswitch =>
    obtain ⟨x, r, -, h2⟩ := xp1I_some h
    try dsimp only at h2
    split at h2
    · exact hm _ _ _ _ _ _ _ h2
    · obtain ⟨of, -, h3⟩ := xbind h2
      exact hm _ _ _ _ _ _ _ h3
  case getfield =>
    obtain ⟨pp, r, -, h2⟩ := xp1R_some h
    obtain ⟨q, -, h3⟩ := xbind h2
    split at h3
    · obtain ⟨x, -, h4⟩ := xbind h3
      exact hm _ _ _ _ _ _ _ h4
    · obtain ⟨x, -, h4⟩ := xbind h3
      exact hm _ _ _ _ _ _ _ h4
    · obtain ⟨x, -, h4⟩ := xbind h3
      exact hm _ _ _ _ _ _ _ h4
  case putfield =>
    unfold xexec at h
    dsimp only at h
    split at h
    · obtain ⟨x, r, -, h2⟩ := xp1L_some h
      obtain ⟨pp, r, -, h3⟩ := xp1R_some h2
      obtain ⟨q, -, h4⟩ := xbind h3
      obtain ⟨M1, h5, h6⟩ := xbind h4
      obtain ⟨fs, -, -, rfl⟩ := xput_some h5
      have h7 := hm _ _ _ _ _ _ _ h6
      exact h7
    · obtain ⟨x, r, -, h2⟩ := xp1R_some h
      obtain ⟨pp, r, -, h3⟩ := xp1R_some h2
      obtain ⟨q, -, h4⟩ := xbind h3
      obtain ⟨M1, h5, h6⟩ := xbind h4
      obtain ⟨fs, -, -, rfl⟩ := xput_some h5
      have h7 := hm _ _ _ _ _ _ _ h6
      exact h7
    · obtain ⟨x, r, -, h2⟩ := xp1I_some h
      obtain ⟨pp, r, -, h3⟩ := xp1R_some h2
      obtain ⟨q, -, h4⟩ := xbind h3
      obtain ⟨-, h4⟩ := xcond h4
      obtain ⟨M1, h5, h6⟩ := xbind h4
      obtain ⟨fs, -, -, rfl⟩ := xput_some h5
      have h7 := hm _ _ _ _ _ _ _ h6
      exact h7
    · obtain ⟨x, r, -, h2⟩ := xp1I_some h
      obtain ⟨pp, r, -, h3⟩ := xp1R_some h2
      obtain ⟨q, -, h4⟩ := xbind h3
      obtain ⟨M1, h5, h6⟩ := xbind h4
      obtain ⟨fs, -, -, rfl⟩ := xput_some h5
      have h7 := hm _ _ _ _ _ _ _ h6
      exact h7
  case iaload =>
    obtain ⟨pp, i, r, -, h2⟩ := xpA_some h
    obtain ⟨q, -, h3⟩ := xbind h2
    obtain ⟨x, -, h4⟩ := xbind h3
    exact hm _ _ _ _ _ _ _ h4
  case baload =>
    obtain ⟨pp, i, r, -, h2⟩ := xpA_some h
    obtain ⟨q, -, h3⟩ := xbind h2
    obtain ⟨x, -, h4⟩ := xbind h3
    exact hm _ _ _ _ _ _ _ h4
  case laload =>
    obtain ⟨pp, i, r, -, h2⟩ := xpA_some h
    obtain ⟨q, -, h3⟩ := xbind h2
    obtain ⟨x, -, h4⟩ := xbind h3
    exact hm _ _ _ _ _ _ _ h4
  case aaload =>
    obtain ⟨pp, i, r, -, h2⟩ := xpA_some h
    obtain ⟨q, -, h3⟩ := xbind h2
    obtain ⟨x, -, h4⟩ := xbind h3
    exact hm _ _ _ _ _ _ _ h4
  case iastore =>
    obtain ⟨x, r0, -, h1⟩ := xp1I_some h
    obtain ⟨pp, i, r, -, h2⟩ := xpA_some h1
    obtain ⟨q, -, h3⟩ := xbind h2
    obtain ⟨M1, h4, h5⟩ := xbind h3
    obtain ⟨n, f, -, -, rfl⟩ := xsI_some h4
    have h7 := hm _ _ _ _ _ _ _ h5
    exact h7
  case bastore =>
    obtain ⟨x, r0, -, h1⟩ := xp1I_some h
    obtain ⟨pp, i, r, -, h2⟩ := xpA_some h1
    obtain ⟨q, -, h3⟩ := xbind h2
    obtain ⟨M1, h4, h5⟩ := xbind h3
    obtain ⟨n, f, -, -, -, rfl⟩ := xsZ_some h4
    have h7 := hm _ _ _ _ _ _ _ h5
    exact h7
  case lastore =>
    obtain ⟨x, r0, -, h1⟩ := xp1L_some h
    obtain ⟨pp, i, r, -, h2⟩ := xpA_some h1
    obtain ⟨q, -, h3⟩ := xbind h2
    obtain ⟨M1, h4, h5⟩ := xbind h3
    obtain ⟨n, f, -, -, rfl⟩ := xsL_some h4
    have h7 := hm _ _ _ _ _ _ _ h5
    exact h7
  case aastore =>
    obtain ⟨x, r0, -, h1⟩ := xp1R_some h
    obtain ⟨pp, i, r, -, h2⟩ := xpA_some h1
    obtain ⟨q, -, h3⟩ := xbind h2
    obtain ⟨M1, h4, h5⟩ := xbind h3
    obtain ⟨t, n, f, -, -, -, -, rfl⟩ := xsR_some h4
    have h7 := hm _ _ _ _ _ _ _ h5
    exact h7
  case arraylength =>
    obtain ⟨pp, r, -, h2⟩ := xp1R_some h
    obtain ⟨q, -, h3⟩ := xbind h2
    obtain ⟨x, -, h4⟩ := xbind h3
    exact hm _ _ _ _ _ _ _ h4
  case new =>
    obtain ⟨-, h2⟩ := xcond h
    have h3 := hm _ _ _ _ _ _ _ h2
    have h4 : M.1 + 1 ≤ M'.1 := h3.1
    have h5 : M.2.1 + xnf a ≤ M'.2.1 := h3.2
    exact ⟨by omega, by omega⟩
  case newarray =>
    obtain ⟨n, r, -, h2⟩ := xp1I_some h
    obtain ⟨M1, h3, h4⟩ := xbind h2
    obtain ⟨-, -, rfl⟩ := xnewA_some h3
    have h5 := hm _ _ _ _ _ _ _ h4
    have h6 : M.1 + 1 ≤ M'.1 := h5.1
    have h7 : M.2.1 + n.toNatClampNeg ≤ M'.2.1 := h5.2
    exact ⟨by omega, by omega⟩
  case anewarray =>
    obtain ⟨n, r, -, h2⟩ := xp1I_some h
    obtain ⟨M1, h3, h4⟩ := xbind h2
    obtain ⟨-, -, rfl⟩ := xnewA_some h3
    have h5 := hm _ _ _ _ _ _ _ h4
    have h6 : M.1 + 1 ≤ M'.1 := h5.1
    have h7 : M.2.1 + n.toNatClampNeg ≤ M'.2.1 := h5.2
    exact ⟨by omega, by omega⟩
  case checkcast =>
    obtain ⟨-, h1⟩ := xcond h
    obtain ⟨pp, r, -, h2⟩ := xp1R_some h1
    cases pp with
    | none => exact hm _ _ _ _ _ _ _ h2
    | some q =>
      obtain ⟨-, h3⟩ := xcond h2
      exact hm _ _ _ _ _ _ _ h3
  case invokevirtual =>
    cases h0 : Nat.beq c3 52 with
    | true =>
      simp only [xexec, h0, cond_true] at h
      obtain ⟨pp, r, -, h2⟩ := xp1R_some h
      obtain ⟨q, -, h3⟩ := xbind h2
      obtain ⟨-, h4⟩ := xcond h3
      exact hm _ _ _ _ _ _ _ h4
    | false =>
      simp only [xexec, h0, cond_false] at h
      obtain ⟨-, h2⟩ := xcond h
      obtain ⟨pp, r, -, h3⟩ := xp1R_some h2
      obtain ⟨q, -, h4⟩ := xbind h3
      obtain ⟨-, h5⟩ := xcond h4
      exact xcall_mono hm h5
  case invokespecial =>
    cases h0 : Nat.beq c3 50 with
    | true =>
      simp only [xexec, h0, cond_true] at h
      obtain ⟨pp, r, -, h2⟩ := xp1R_some h
      obtain ⟨q, -, h3⟩ := xbind h2
      obtain ⟨-, h4⟩ := xcond h3
      exact hm _ _ _ _ _ _ _ h4
    | false =>
      simp only [xexec, h0, cond_false] at h
      obtain ⟨-, h2⟩ := xcond h
      obtain ⟨pp, r, -, h3⟩ := xp1R_some h2
      obtain ⟨q, -, h4⟩ := xbind h3
      exact xcall_mono hm h4
  case invokestatic =>
    cases h0 : Nat.beq c3 51 with
    | true =>
      simp only [xexec, h0, cond_true] at h
      obtain ⟨n, r1, -, h2⟩ := xp1I_some h
      obtain ⟨p1, dp, r2, -, h3⟩ := xpA_some h2
      obtain ⟨a1, -, h4⟩ := xbind h3
      obtain ⟨p0, sp, r, -, h5⟩ := xpA_some h4
      obtain ⟨a0, -, h6⟩ := xbind h5
      obtain ⟨-, h8⟩ := xcond h6
      obtain ⟨M1, h9, h10⟩ := xbind h8
      have h11 := hm _ _ _ _ _ _ _ h10
      rcases xcopy_some h9 with ⟨n0, n1, f, g, -, -, -, -, -, rfl⟩ | ⟨n0, n1, f, g, -, -, -, -, -, rfl⟩ | ⟨n0, n1, f, g, -, -, -, -, -, -, rfl⟩
      · exact h11
      · exact h11
      · exact h11
    | false =>
      simp only [xexec, h0, cond_false] at h
      cases h53 : Nat.beq c3 53 with
      | true =>
        simp only [h53, cond_true] at h
        obtain ⟨x, y, r, -, h2⟩ := xp2I_some h
        obtain ⟨-, h3⟩ := xcond h2
        exact hm _ _ _ _ _ _ _ h3
      | false =>
        simp only [h53, cond_false] at h
        cases h54 : Nat.beq c3 54 with
        | true =>
          simp only [h54, cond_true] at h
          obtain ⟨x, y, r, -, h2⟩ := xp2I_some h
          obtain ⟨-, h3⟩ := xcond h2
          exact hm _ _ _ _ _ _ _ h3
        | false =>
          simp only [h54, cond_false] at h
          obtain ⟨-, h3⟩ := xcond h
          exact xcall_mono hm h3
  case ireturn =>
    have e := (xret_all rfl h).1
    subst e
    exact ⟨Nat.le_refl _, Nat.le_refl _⟩
  case lreturn =>
    have e := (xret_all rfl h).1
    subst e
    exact ⟨Nat.le_refl _, Nat.le_refl _⟩
  case areturn =>
    have e := (xret_all rfl h).1
    subst e
    exact ⟨Nat.le_refl _, Nat.le_refl _⟩
  case return_ =>
    have e := (xret_all rfl h).1
    subst e
    exact ⟨Nat.le_refl _, Nat.le_refl _⟩
  all_goals exact nomatch (h : (none : xR) = some (v, M'))
theorem xrun_mono (T0 MI : Nat) : ∀ n, xMono (xrun T0 MI n)
  | 0 => fun _ _ _ _ _ _ _ h => by cases h
  | n + 1 => fun mi pc lv st M v M' h => by
    rw [xrun_succ] at h
    unfold xstep at h
    split at h
    · cases h
    · exact xexec_mono (xrun_mono T0 MI n) h
