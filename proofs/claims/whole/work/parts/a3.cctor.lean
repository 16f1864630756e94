/-! THE CLASS'S CONSTRUCTOR: the house, six hosts, the first page -/
theorem xdef11 : xdef 11 = [vr none, vr none, vr none, vr none, vr none, vr none, vi 0, vi 0, vi 0] := by decide
theorem xdef3 : xdef 3 = [vi 0, vi 0, vr none, vr none] := by decide
def hoC (X : Nat) (mk : Int32) : xE := .inr (11, [vr (some (X + 1)), vr (some (X + 2)), vr (some (X + 3)), vr (some (X + 4)), vr (some (X + 5)), vr (some (X + 6)), vi mk, vi 0, vi 0])
def liC (T0 : Nat) : xE := .inr (13, [vi 0, vr (some T0), vi 0])
def hsC (X T0 h j : Nat) : xE := match j with
  | 0 => .inr (3, [vi (nI h), vi 1, vr (some (X + 8 + 3 * h)), vr (some (X + 9 + 3 * h))])
  | 1 => .inl (6, 40, .inr (.inr fun _ => none))
  | _ => liC T0
def mB (X T0 k : Nat) (f : Nat → xE) : Nat → xE := fun a =>
  if a < X then f a else if a = X then hoC X 0 else if a = X + 1 then .inl (4, 6, .inr (.inr fun h => if h < k then some (X + 7 + 3 * h) else none)) else if a = X + 2 then .inl (5, 40, .inr (.inr fun _ => none)) else if a < X + 6 then liC T0 else if a = X + 6 then .inl (0, 7, .inl fun _ => 0) else if a < X + 7 + 3 * k then hsC X T0 ((a - X - 7) / 3) ((a - X - 7) % 3) else f a
theorem list_new {T0 MI m s : Nat} {f : Nat → xE} : xZ T0 MI 203 0 [some (vr (some m))] [] (xnewO (m, s, f) 13) = some (none, (m + 1, s + 3, va_up f m (liC T0))) := by
  have h1 : (xnewO (m, s, f) 13).2.2 m = .inr (13, [vi 0, vr none, vi 0]) := by rw [newO_at (m, s, f), xdef13]
  rw [c_newList h1]
  unfold xset xnewO
  refine congrArg some (Prod.ext rfl (Prod.ext rfl (Prod.ext (by show s + xnf 13 = s + 3; rfl) (funext fun a => ?_))))
  show va_up (va_up f m _) m _ a = _
  rw [va_up_up]
  rfl
theorem arr_new {m s t n : Nat} {f : Nat → xE} {x : Int32} (hx : x = nI n) (hn : n ≤ 1000) : xnewA (m, s, f) t x = some (m + 1, s + n, va_up f m (.inl (t, n, xA0 t))) := by
  rw [hx, xnewA_n hn]
  rfl
theorem put_c {m s a c k : Nat} {f : Nat → xE} {fs : List xV} {v : xV} (h : f a = .inr (c, fs)) (hk : Nat.blt k fs.length = true) : xput (m, s, f) a c k v = some (m, s, va_up f a (.inr (c, fs.set k v))) := pV (M := (m, s, f)) h k hk v
theorem k_A {T0 MI X s : Nat} {f : Nat → xE} (h : f X = .inr (11, xdef 11)) : xZ T0 MI 64 0 [some (vr (some X)), none] [] (X + 1, s, f) = xZ T0 MI 64 65 [some (vr (some X)), some (vi (Int32.ofInt 0))] [] (X + 7, s + 62, mB X T0 0 f) := by
  rw [xdef11] at h
  rw [bq_64_0, arr_new (n := 6) (x := Int32.ofInt 6) rfl (by decide), Option.bind_some]
  rw [put_c (fs := [vr none, vr none, vr none, vr none, vr none, vr none, vi 0, vi 0, vi 0]) (by simp (disch := omega) only [va_up_ne, va_up_self]; exact h) rfl, Option.bind_some]
  rw [arr_new (n := 40) (x := Int32.ofInt 40) rfl (by decide), Option.bind_some]
  rw [put_c (by simp (disch := omega) only [va_up_ne, va_up_self]; rfl) rfl, Option.bind_some]
  rw [list_new, Option.bind_some]
  show xZ T0 MI 64 30 [some (vr (some X)), none] [vr (some (X + 1 + 1 + 1)), vr (some X)] _ = _
  rw [bq_64_30, put_c (by simp (disch := omega) only [va_up_ne, va_up_self]; rfl) rfl, Option.bind_some, list_new, Option.bind_some]
  show xZ T0 MI 64 41 [some (vr (some X)), none] [vr (some (X + 1 + 1 + 1 + 1)), vr (some X)] _ = _
  rw [bq_64_41, put_c (by simp (disch := omega) only [va_up_ne, va_up_self]; rfl) rfl, Option.bind_some, list_new, Option.bind_some]
  show xZ T0 MI 64 52 [some (vr (some X)), none] [vr (some (X + 1 + 1 + 1 + 1 + 1)), vr (some X)] _ = _
  rw [bq_64_52, put_c (by simp (disch := omega) only [va_up_ne, va_up_self]; rfl) rfl, Option.bind_some, arr_new (n := 7) (x := Int32.ofInt 7) rfl (by decide), Option.bind_some, put_c (by simp (disch := omega) only [va_up_ne, va_up_self]; rfl) rfl, Option.bind_some]
  congr 1
  refine Prod.ext rfl (Prod.ext rfl (funext fun a => ?_))
  dsimp only
  unfold mB
  by_cases c1 : a < X
  · rw [if_pos c1]
    simp (disch := omega) only [va_up_ne]
  · rw [if_neg c1]
    by_cases c2 : a = X
    · rw [if_pos c2, c2]
      simp (disch := omega) only [va_up_ne, va_up_self]
      rfl
    · rw [if_neg c2]
      by_cases c3 : a = X + 1
      · rw [if_pos c3, c3]
        simp (disch := omega) only [va_up_ne, va_up_self]
        rfl
      · rw [if_neg c3]
        by_cases c4 : a = X + 2
        · rw [if_pos c4, c4]
          simp (disch := omega) only [va_up_ne, va_up_self]
          rfl
        · rw [if_neg c4]
          by_cases c5 : a < X + 6
          · rw [if_pos c5]
            have : a = X + 1 + 1 + 1 ∨ a = X + 1 + 1 + 1 + 1 ∨ a = X + 1 + 1 + 1 + 1 + 1 := by omega
            rcases this with e | e | e <;> rw [e] <;> simp (disch := omega) only [va_up_ne, va_up_self]
          · rw [if_neg c5]
            by_cases c6 : a = X + 6
            · rw [if_pos c6, c6]
              simp (disch := omega) only [va_up_ne, va_up_self]
              rfl
            · rw [if_neg c6, if_neg (by omega)]
              simp (disch := omega) only [va_up_ne]
