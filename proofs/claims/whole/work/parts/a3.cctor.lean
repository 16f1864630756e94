/-! THE CLASS'S CONSTRUCTOR: the house, six hosts, the first page -/
theorem xdef11 : xdef 11 = [vr none, vr none, vr none, vr none, vr none, vr none, vi 0, vi 0, vi 0] := by decide
theorem xdef3 : xdef 3 = [vi 0, vi 0, vr none, vr none] := by decide
def hoC (X : Nat) (mk : Int32) : xE := .inr (11, [vr (some (X + 1)), vr (some (X + 2)), vr (some (X + 3)), vr (some (X + 4)), vr (some (X + 5)), vr (some (X + 6)), vi mk, vi 0, vi 0])
def liC (T0 : Nat) : xE := .inr (13, [vi 0, vr (some T0), vi 0])
def hsC (X T0 h j : Nat) : xE := match j with
  | 0 => .inr (3, [vi (nI h), vi 1, vr (some (X + 8 + 3 * h)), vr (some (X + 9 + 3 * h))])
  | 1 => .inl (6, 40, .inr (.inr fun _ => none))
  | _ => liC T0
def mB (X T0 k : Nat) (f : Nat → xE) : Nat → xE := fun a =>
  if a < X then f a else if a = X then hoC X 0 else if a = X + 1 then .inl (4, 6, .inr (.inr fun h => if h < k then some (X + 7 + 3 * h) else none)) else if a = X + 2 then .inl (5, 40, .inr (.inr fun _ => none)) else if a < X + 6 then liC T0 else if a = X + 6 then .inl (0, 7, .inl fun _ => 0) else if a < X + 7 + 3 * k then hsC X T0 ((a - X - 7) / 3) ((a - X - 7) % 3) else f a
theorem list_new {T0 MI m s : Nat} {f : Nat → xE} : xZ T0 MI 203 0 [some (vr (some m))] [] (xnewO (m, s, f) 13) = some (none, (m + 1, s + 3, va_up f m (liC T0))) := by
  have h1 : (xnewO (m, s, f) 13).2.2 m = .inr (13, [vi 0, vr none, vi 0]) := by rw [newO_at (m, s, f), xdef13]
  rw [c_newList h1]
  unfold xset xnewO
  refine congrArg some (Prod.ext rfl (Prod.ext rfl (Prod.ext (by show s + xnf 13 = s + 3; rfl) (funext fun a => ?_))))
  show va_up (va_up f m _) m _ a = _
  rw [va_up_up]
  rfl
theorem arr_new {m s t n : Nat} {f : Nat → xE} {x : Int32} (hx : x = nI n) (hn : n ≤ 1000) : xnewA (m, s, f) t x = some (m + 1, s + n, va_up f m (.inl (t, n, xA0 t))) := by
  rw [hx, xnewA_n hn]
  rfl
theorem put_c {m s a c k : Nat} {f : Nat → xE} {fs : List xV} {v : xV} (h : f a = .inr (c, fs)) (hk : Nat.blt k fs.length = true) : xput (m, s, f) a c k v = some (m, s, va_up f a (.inr (c, fs.set k v))) := pV (M := (m, s, f)) h k hk v
theorem k_A {T0 MI X s : Nat} {f : Nat → xE} (h : f X = .inr (11, xdef 11)) : xZ T0 MI 64 0 [some (vr (some X)), none] [] (X + 1, s, f) = xZ T0 MI 64 65 [some (vr (some X)), some (vi (Int32.ofInt 0))] [] (X + 7, s + 62, mB X T0 0 f) := by
  rw [xdef11] at h
  rw [bq_64_0, arr_new (n := 6) (x := Int32.ofInt 6) rfl (by decide), Option.bind_some]
  rw [put_c (fs := [vr none, vr none, vr none, vr none, vr none, vr none, vi 0, vi 0, vi 0]) (by simp (disch := omega) only [va_up_ne, va_up_self]; exact h) rfl, Option.bind_some]
  rw [arr_new (n := 40) (x := Int32.ofInt 40) rfl (by decide), Option.bind_some]
  rw [put_c (by simp (disch := omega) only [va_up_ne, va_up_self]; rfl) rfl, Option.bind_some]
  rw [list_new, Option.bind_some]
  show xZ T0 MI 64 30 [some (vr (some X)), none] [vr (some (X + 1 + 1 + 1)), vr (some X)] _ = _
  rw [bq_64_30, put_c (by simp (disch := omega) only [va_up_ne, va_up_self]; rfl) rfl, Option.bind_some, list_new, Option.bind_some]
  show xZ T0 MI 64 41 [some (vr (some X)), none] [vr (some (X + 1 + 1 + 1 + 1)), vr (some X)] _ = _
  rw [bq_64_41, put_c (by simp (disch := omega) only [va_up_ne, va_up_self]; rfl) rfl, Option.bind_some, list_new, Option.bind_some]
  show xZ T0 MI 64 52 [some (vr (some X)), none] [vr (some (X + 1 + 1 + 1 + 1 + 1)), vr (some X)] _ = _
  rw [bq_64_52, put_c (by simp (disch := omega) only [va_up_ne, va_up_self]; rfl) rfl, Option.bind_some, arr_new (n := 7) (x := Int32.ofInt 7) rfl (by decide), Option.bind_some, put_c (by simp (disch := omega) only [va_up_ne, va_up_self]; rfl) rfl, Option.bind_some]
  congr 1
  refine Prod.ext rfl (Prod.ext rfl (funext fun a => ?_))
  dsimp only
  unfold mB
  by_cases c1 : a < X
  · rw [if_pos c1]
    simp (disch := omega) only [va_up_ne]
  · rw [if_neg c1]
    by_cases c2 : a = X
    · rw [if_pos c2, c2]
      simp (disch := omega) only [va_up_ne, va_up_self]
      rfl
    · rw [if_neg c2]
      by_cases c3 : a = X + 1
      · rw [if_pos c3, c3]
        simp (disch := omega) only [va_up_ne, va_up_self]
        rfl
      · rw [if_neg c3]
        by_cases c4 : a = X + 2
        · rw [if_pos c4, c4]
          simp (disch := omega) only [va_up_ne, va_up_self]
          rfl
        · rw [if_neg c4]
          by_cases c5 : a < X + 6
          · rw [if_pos c5]
            have : a = X + 1 + 1 + 1 ∨ a = X + 1 + 1 + 1 + 1 ∨ a = X + 1 + 1 + 1 + 1 + 1 := by omega
            rcases this with e | e | e <;> rw [e] <;> simp (disch := omega) only [va_up_ne, va_up_self]
          · rw [if_neg c5]
            by_cases c6 : a = X + 6
            · rw [if_pos c6, c6]
              simp (disch := omega) only [va_up_ne, va_up_self]
              rfl
            · rw [if_neg c6, if_neg (by omega)]
              simp (disch := omega) only [va_up_ne]
theorem host_new {T0 MI m s : Nat} {f : Nat → xE} {x : Int32} : xZ T0 MI 26 0 [some (vr (some m)), some (vi x)] [] (xnewO (m, s, f) 3) = some (none, (m + 3, s + 47, va_up (va_up (va_up f m (.inr (3, [vi x, vi 1, vr (some (m + 1)), vr (some (m + 2))]))) (m + 1) (.inl (6, 40, .inr (.inr fun _ => none)))) (m + 2) (liC T0))) := by
  have e : xnewO (m, s, f) 3 = (m + 1, s + 4, va_up f m (.inr (3, xdef 3))) := rfl
  rw [e, xdef3, bq_26_0, show xbool (Int32.ofInt 1) = true from rfl, cond_true]
  rw [put_c (va_up_self _ _ _) rfl, Option.bind_some, arr_new (n := 40) (x := Int32.ofInt 40) rfl (by decide), Option.bind_some]
  rw [put_c (by simp (disch := omega) only [va_up_ne, va_up_self]; rfl) rfl, Option.bind_some, list_new, Option.bind_some]
  show xZ T0 MI 26 26 [some (vr (some m)), some (vi x)] [vr (some (m + 1 + 1)), vr (some m)] _ = _
  rw [bq_26_26, put_c (by simp (disch := omega) only [va_up_ne, va_up_self]; rfl) rfl, Option.bind_some, put_c (va_up_self _ _ _) rfl, Option.bind_some]
  refine congrArg some (Prod.ext rfl (Prod.ext rfl (Prod.ext rfl (funext fun a => ?_))))
  dsimp only
  by_cases c1 : a = m
  · rw [c1]
    simp (disch := omega) only [va_up_ne, va_up_self]
    rfl
  · by_cases c2 : a = m + 1
    · rw [c2]
      simp (disch := omega) only [va_up_ne, va_up_self]
      rfl
    · by_cases c3 : a = m + 2
      · rw [c3]
        simp (disch := omega) only [va_up_ne, va_up_self]
      · simp (disch := omega) only [va_up_ne]
theorem k_B {T0 MI X s k : Nat} {f : Nat → xE} (hk : k < 6) : xZ T0 MI 64 65 [some (vr (some X)), some (vi (nI k))] [] (X + 7 + 3 * k, s, mB X T0 k f) = xZ T0 MI 64 65 [some (vr (some X)), some (vi (nI (k + 1)))] [] (X + 7 + 3 * (k + 1), s + 47, mB X T0 (k + 1) f) := by
  have eX : mB X T0 k f X = hoC X 0 := by unfold mB; rw [if_neg (by omega), if_pos rfl]
  have e1 : mB X T0 k f (X + 1) = .inl (4, 6, .inr (.inr fun h => if h < k then some (X + 7 + 3 * h) else none)) := by unfold mB; rw [if_neg (by omega), if_neg (by omega), if_pos rfl]
  rw [bq_64_65, k_6, if_neg (by rw [nI_leI (by decide) (by omega)]; omega), bq_64_71, gR (M := (X + 7 + 3 * k, s, mB X T0 k f)) eX 0 rfl, Option.bind_some, host_new, Option.bind_some]
  show xZ T0 MI 64 84 [some (vr (some X)), some (vi (nI k))] [vr (some (X + 7 + 3 * k)), vi (nI k), vr (some (X + 1))] _ = _
  rw [bq_64_84, Option.bind_some]
  have c4 : (va_up (va_up (va_up (mB X T0 k f) (X + 7 + 3 * k) (.inr (3, [vi (nI k), vi 1, vr (some (X + 7 + 3 * k + 1)), vr (some (X + 7 + 3 * k + 2))]))) (X + 7 + 3 * k + 1) (.inl (6, 40, .inr (.inr fun _ => none)))) (X + 7 + 3 * k + 2) (liC T0)) (X + 1) = .inl (4, 6, .inr (.inr fun h => if h < k then some (X + 7 + 3 * h) else none)) := by
    simp (disch := omega) only [va_up_ne]
    exact e1
  have may : xmayR (X + 7 + 3 * k + 3, s + 47, va_up (va_up (va_up (mB X T0 k f) (X + 7 + 3 * k) (.inr (3, [vi (nI k), vi 1, vr (some (X + 7 + 3 * k + 1)), vr (some (X + 7 + 3 * k + 2))]))) (X + 7 + 3 * k + 1) (.inl (6, 40, .inr (.inr fun _ => none)))) (X + 7 + 3 * k + 2) (liC T0)) 4 (some (X + 7 + 3 * k)) = true := by
    unfold xmayR xclsO
    simp (disch := omega) only [va_up_ne, va_up_self]
    rfl
  rw [sR (M := (X + 7 + 3 * k + 3, s + 47, va_up (va_up (va_up (mB X T0 k f) (X + 7 + 3 * k) (.inr (3, [vi (nI k), vi 1, vr (some (X + 7 + 3 * k + 1)), vr (some (X + 7 + 3 * k + 2))]))) (X + 7 + 3 * k + 1) (.inl (6, 40, .inr (.inr fun _ => none)))) (X + 7 + 3 * k + 2) (liC T0))) c4 rfl, xin_t hk (by decide), may, Bool.true_and, cond_true, Option.bind_some, nI_clamp (by omega), k_1, nI_add]
  congr 1
  unfold xset
  refine Prod.ext (by show X + 7 + 3 * k + 3 = X + 7 + 3 * (k + 1); omega) (Prod.ext rfl (funext fun a => ?_))
  dsimp only
  by_cases c1 : a = X + 1
  · rw [c1, va_up_self]
    unfold mB
    rw [if_neg (by omega), if_neg (by omega), if_pos rfl]
    refine congrArg (fun z => Sum.inl (4, 6, Sum.inr (Sum.inr z))) (funext fun h => ?_)
    by_cases e : h = k
    · rw [e, va_up_self, if_pos (by omega)]
    · rw [va_up_ne _ _ e]
      by_cases e' : h < k
      · rw [if_pos e', if_pos (by omega)]
      · rw [if_neg e', if_neg (by omega)]
  · rw [va_up_ne _ _ c1]
    by_cases c2 : X + 7 + 3 * k ≤ a ∧ a < X + 7 + 3 * k + 3
    · have r : mB X T0 (k + 1) f a = hsC X T0 ((a - X - 7) / 3) ((a - X - 7) % 3) := by
        unfold mB
        rw [if_neg (by omega), if_neg (by omega), if_neg (by omega), if_neg (by omega), if_neg (by omega), if_neg (by omega), if_pos (by omega)]
      rw [r]
      have : a = X + 7 + 3 * k ∨ a = X + 7 + 3 * k + 1 ∨ a = X + 7 + 3 * k + 2 := by omega
      rcases this with e | e | e
      · rw [e]
        simp (disch := omega) only [va_up_ne, va_up_self]
        rw [show (X + 7 + 3 * k - X - 7) / 3 = k by omega, show (X + 7 + 3 * k - X - 7) % 3 = 0 by omega]
        rw [show X + 7 + 3 * k + 1 = X + 8 + 3 * k by omega, show X + 7 + 3 * k + 2 = X + 9 + 3 * k by omega]
        rfl
      · rw [e]
        simp (disch := omega) only [va_up_ne, va_up_self]
        rw [show (X + 7 + 3 * k + 1 - X - 7) % 3 = 1 by omega]
        rfl
      · rw [e]
        simp (disch := omega) only [va_up_ne, va_up_self]
        rw [show (X + 7 + 3 * k + 2 - X - 7) % 3 = 2 by omega]
        rfl
    · simp (disch := omega) only [va_up_ne]
      unfold mB
      by_cases d1 : a < X
      · rw [if_pos d1, if_pos d1]
      · rw [if_neg d1, if_neg d1]
        by_cases d2 : a = X
        · rw [if_pos d2, if_pos d2]
        · rw [if_neg d2, if_neg d2, if_neg c1, if_neg c1]
          by_cases d3 : a = X + 2
          · rw [if_pos d3, if_pos d3]
          · rw [if_neg d3, if_neg d3]
            by_cases d4 : a < X + 6
            · rw [if_pos d4, if_pos d4]
            · rw [if_neg d4, if_neg d4]
              by_cases d5 : a = X + 6
              · rw [if_pos d5, if_pos d5]
              · rw [if_neg d5, if_neg d5]
                by_cases d6 : a < X + 7 + 3 * k
                · rw [if_pos d6, if_pos (by omega)]
                · rw [if_neg d6, if_neg (by omega)]
theorem k_Bs {T0 MI X : Nat} {f : Nat → xE} : ∀ (m k s : Nat), k + m = 6 → xZ T0 MI 64 65 [some (vr (some X)), some (vi (nI k))] [] (X + 7 + 3 * k, s, mB X T0 k f) = xZ T0 MI 64 91 [some (vr (some X)), some (vi (nI 6))] [] (X + 25, s + 47 * m, mB X T0 6 f)
  | 0, k, s, h => by
    have : k = 6 := by omega
    subst this
    rw [bq_64_65, k_6, if_pos (by rw [nI_leI (by decide) (by decide)]; omega)]
    rfl
  | m + 1, k, s, h => by
    rw [k_B (by omega), k_Bs m (k + 1) _ (by omega), show s + 47 + 47 * m = s + 47 * (m + 1) by omega]
def spC : xE := .inr (10, [vi (Int32.ofInt 0), vi (Int32.ofInt 0), vi (Int32.ofInt 10000), vi (Int32.ofInt 1), vi (Int32.ofInt 0)])
def pgC (X : Nat) : xE := .inr (7, [vr (some (X + 26)), vi 0, vi 0, vi 0, vi 0, vi 0])
def mC (X T0 : Nat) (f : Nat → xE) : Nat → xE := fun a =>
  if a = X then hoC X 1 else if a = X + 2 then .inl (5, 40, .inr (.inr (va_up (fun _ => none) 0 (some (X + 25))))) else if a = X + 25 then pgC X else if a = X + 26 then spC else mB X T0 6 f a
theorem spot_new {T0 MI m s : Nat} {f : Nat → xE} {n lo hi e h : Int32} : xZ T0 MI 59 0 [some (vr (some m)), some (vi n), some (vi lo), some (vi hi), some (vi e), some (vi h)] [] (xnewO (m, s, f) 10) = some (none, (m + 1, s + 5, va_up f m (.inr (10, [vi n, vi lo, vi hi, vi e, vi h])))) := by
  have e' : xnewO (m, s, f) 10 = (m + 1, s + 5, va_up f m (.inr (10, xdef 10))) := rfl
  rw [e', xdef10, bq_59_0]
  rw [put_c (va_up_self _ _ _) rfl, Option.bind_some, va_up_up, put_c (va_up_self _ _ _) rfl, Option.bind_some, va_up_up, put_c (va_up_self _ _ _) rfl, Option.bind_some, va_up_up, put_c (va_up_self _ _ _) rfl, Option.bind_some, va_up_up, put_c (va_up_self _ _ _) rfl, Option.bind_some, va_up_up]
  rfl
theorem k_C {T0 MI X s : Nat} {f : Nat → xE} {o1 : Option xV} : xZ T0 MI 64 91 [some (vr (some X)), o1] [] (X + 25, s, mB X T0 6 f) = (xZ T0 MI 7 0 [some (vr (some (X + 27)))] [] (xnewO (X + 27, s + 11, mC X T0 f) 2)).bind fun z_4 => bif z_4.1.isNone then xZ T0 MI 64 130 [some (vr (some X)), o1] [vr (some (X + 27))] z_4.2 else none := by
  have eX : mB X T0 6 f X = hoC X 0 := by unfold mB; rw [if_neg (by omega), if_pos rfl]
  have e2 : mB X T0 6 f (X + 2) = .inl (5, 40, .inr (.inr fun _ => none)) := by unfold mB; rw [if_neg (by omega), if_neg (by omega), if_neg (by omega), if_pos rfl]
  rw [bq_64_91, gR (M := (X + 25, s, mB X T0 6 f)) eX 1 rfl, Option.bind_some]
  have e7 : xnewO (X + 25, s, mB X T0 6 f) 7 = (X + 26, s + 6, va_up (mB X T0 6 f) (X + 25) (.inr (7, xdef 7))) := rfl
  rw [e7, xdef7, spot_new, Option.bind_some]
  show xZ T0 MI 64 114 [some (vr (some X)), o1] [vr (some (X + 26)), vr (some (X + 25)), vr (some (X + 25)), vi (Int32.ofInt 0), vr (some (X + 2))] _ = _
  rw [bq_64_114, bq_47_0, put_c (by simp (disch := omega) only [va_up_ne, va_up_self]; rfl) rfl, Option.bind_some, Option.bind_some]
  show xZ T0 MI 64 117 [some (vr (some X)), o1] [vr (some (X + 25)), vi (Int32.ofInt 0), vr (some (X + 2))] _ = _
  rw [bq_64_117, Option.bind_some]
  generalize hg : va_up (va_up (va_up (mB X T0 6 f) (X + 25) (.inr (7, [vr none, vi 0, vi 0, vi 0, vi 0, vi 0]))) (X + 26) (.inr (10, [vi (Int32.ofInt 0), vi (Int32.ofInt 0), vi (Int32.ofInt 10000), vi (Int32.ofInt 1), vi (Int32.ofInt 0)]))) (X + 25) (.inr (7, [vr none, vi 0, vi 0, vi 0, vi 0, vi 0].set 0 (vr (some (X + 26))))) = g
  have g2 : g (X + 2) = .inl (5, 40, .inr (.inr fun _ => none)) := by rw [← hg]; simp (disch := omega) only [va_up_ne]; exact e2
  have gX : g X = hoC X 0 := by rw [← hg]; simp (disch := omega) only [va_up_ne]; exact eX
  have g25 : g (X + 25) = pgC X := by rw [← hg, va_up_self]; rfl
  have g26 : g (X + 26) = spC := by rw [← hg]; simp (disch := omega) only [va_up_ne, va_up_self]; rfl
  have go : ∀ a, a ≠ X + 25 → a ≠ X + 26 → g a = mB X T0 6 f a := fun a h1 h2 => by rw [← hg]; simp (disch := omega) only [va_up_ne]
  have may : xmayR (X + 26 + 1, s + 6 + 5, g) 5 (some (X + 25)) = true := by
    unfold xmayR xclsO
    simp only [g25]
    rfl
  rw [sR (M := (X + 26 + 1, s + 6 + 5, g)) g2 rfl, show xin (Int32.ofInt 0) 40 = true from by decide, may, Bool.true_and, cond_true, Option.bind_some, show (Int32.ofInt 0).toNatClampNeg = 0 from by decide]
  have hs : xset (X + 26 + 1, s + 6 + 5, g) (X + 2) (.inl (5, 40, .inr (.inr (va_up (fun _ => none) 0 (some (X + 25)))))) = (X + 27, s + 11, va_up g (X + 2) (.inl (5, 40, .inr (.inr (va_up (fun _ => none) 0 (some (X + 25))))))) := rfl
  rw [hs, put_c (c := 11) (k := 6) (fs := [vr (some (X + 1)), vr (some (X + 2)), vr (some (X + 3)), vr (some (X + 4)), vr (some (X + 5)), vr (some (X + 6)), vi 0, vi 0, vi 0]) (by rw [va_up_ne _ _ (by omega)]; exact gX) rfl, Option.bind_some]
  have hm : va_up (va_up g (X + 2) (.inl (5, 40, .inr (.inr (va_up (fun _ => none) 0 (some (X + 25))))))) X (.inr (11, [vr (some (X + 1)), vr (some (X + 2)), vr (some (X + 3)), vr (some (X + 4)), vr (some (X + 5)), vr (some (X + 6)), vi 0, vi 0, vi 0].set 6 (vi (Int32.ofInt 1)))) = mC X T0 f := funext fun a => by
    unfold mC
    by_cases c1 : a = X
    · rw [if_pos c1, c1, va_up_self]; rfl
    · rw [if_neg c1, va_up_ne _ _ c1]
      by_cases c2 : a = X + 2
      · rw [if_pos c2, c2, va_up_self]
      · rw [if_neg c2, va_up_ne _ _ c2]
        by_cases c3 : a = X + 25
        · rw [if_pos c3, c3]; exact g25
        · rw [if_neg c3]
          by_cases c4 : a = X + 26
          · rw [if_pos c4, c4]; exact g26
          · rw [if_neg c4]; exact go a c3 c4
  rw [hm]
