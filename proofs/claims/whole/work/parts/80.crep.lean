/-! WHAT THE CLASS HOLDS: its objects, by components -/
def isSpot (M : xM) (ow : xOw) (s : Nat) (n lo hi e h : Int32) : Prop := M.2.2 s = .inr (10, [vi n, vi lo, vi hi, vi e, vi h]) ∧ ow s = (9999, 0) ∧ s < M.1
theorem isSpot_f {P : Nat × Nat → Prop} {x y : Nat} {ow ow' : xOw} {M M' : xM} {s : Nat} {n lo hi e h : Int32} (H : isSpot M ow s n lo hi e h) (hs : stp P x y ow M ow' M') (hP : ∀ t : Nat × Nat, t.1 = 9999 → P t) : isSpot M' ow' s n lo hi e h := by
  obtain ⟨h1, o, b⟩ := H
  refine ⟨?_, ?_, ?_⟩
  · rw [(hs.2.2.2 s b).2 (hP _ (by rw [o]))]; exact h1
  · rw [(hs.2.2.2 s b).1]; exact o
  · have := hs.1; omega
/-- the house: its arrays, its lists, its numbers -/
def oHo (T0 : Nat) (M : xM) (ow : xOw) (X : Nat) (ad : Nat → Nat) (fh fp : Nat → Option Nat) (cl ll dl : List Nat) (mk ov un : Int32) (g : Nat → Int32) : Prop := M.2.2 X = .inr (11, [vr (some (ad 0)), vr (some (ad 1)), vr (some (ad 2)), vr (some (ad 3)), vr (some (ad 4)), vr (some (ad 5)), vi mk, vi ov, vi un]) ∧ M.2.2 (ad 0) = .inl (4, 6, .inr (.inr fh)) ∧ M.2.2 (ad 1) = .inl (5, 40, .inr (.inr fp)) ∧ M.2.2 (ad 5) = .inl (0, 7, .inl g) ∧ (ow X = (1, 0) ∧ ow (ad 0) = (1, 1) ∧ ow (ad 1) = (1, 2) ∧ ow (ad 5) = (1, 9)) ∧ (X < M.1 ∧ ad 0 < M.1 ∧ ad 1 < M.1 ∧ ad 5 < M.1) ∧ oList T0 M ow 1 3 (ad 2) cl ∧ oList T0 M ow 1 5 (ad 3) ll ∧ oList T0 M ow 1 7 (ad 4) dl
def FH (T0 : Nat) (M : xM) (ow : xOw) (X : Nat) (ad : Nat → Nat) (fh fp : Nat → Option Nat) (cl ll dl : List Nat) (q : xrho) : Prop := ∃ g, oHo T0 M ow X ad fh fp cl ll dl (q.1 12 0) (q.1 13 0) (q.1 14 0) g ∧ ∀ i, i < 7 → g i = q.1 1 i
/-- a host -/
def oHs (T0 : Nat) (M : xM) (ow : xOw) (h a ar gv : Nat) (f : Nat → Option Nat) (up : Int32) (gs : List Nat) : Prop := M.2.2 a = .inr (3, [vi (nI h), vi up, vr (some ar), vr (some gv)]) ∧ M.2.2 ar = .inl (6, 40, .inr (.inr f)) ∧ (ow a = (10 + h, 0) ∧ ow ar = (10 + h, 1)) ∧ (a < M.1 ∧ ar < M.1) ∧ oList T0 M ow (10 + h) 2 gv gs
def gix (q : xrho) (h : Nat) : List Nat := (List.range (nu q 44 0)).filter (fun g => decide (q.1 38 g = nI h))
def gvT (M : xM) (ow : xOw) (gs : List Nat) (q : xrho) (h : Nat) : Prop := gs.length = (gix q h).length ∧ ∀ j (h1 : j < gs.length) (h2 : j < (gix q h).length), isSpot M ow gs[j] (q.1 39 (gix q h)[j]) (q.1 40 (gix q h)[j]) (q.1 41 (gix q h)[j]) (q.1 42 (gix q h)[j]) (q.1 43 (gix q h)[j])
def rHost (T0 : Nat) (M : xM) (ow : xOw) (h a : Nat) (f : Nat → Option Nat) (q : xrho) : Prop := ∃ ar gv gs, oHs T0 M ow h a ar gv f (q.1 0 h) gs ∧ gvT M ow gs q h
/-- what a host has of a range -/
def tie (q : xrho) (L : xLs) (pk : Nat → Option Nat) (p : Nat) (h : Nat → Int32) (sn : Option Nat) (R : RW) (K : Nat → KW) (S : List Int32) : Prop := (h 0 = q.1 15 p ∧ h 6 = q.1 30 p ∧ h 7 = q.1 31 p) ∧ (q.1 15 p = 0 → R = [] ∧ ∀ c, c < 6 → K c = []) ∧ (q.1 15 p ≠ 0 → (h 1 = q.1 16 p ∧ h 2 = q.1 17 p ∧ h 3 = q.1 18 p) ∧ R = L.1 p ∧ ∀ c, c < 6 → K c = L.2.2.1 (6 * p + c)) ∧ ((q.1 15 p = nI 2 ∨ q.1 15 p = nI 3 ∨ q.1 15 p = nI 4) → h 9 = q.1 22 p ∧ h 10 = q.1 23 p) ∧ ((q.1 15 p = nI 2 ∨ q.1 15 p = nI 3) → (h 8 = q.1 21 p ∧ h 12 = q.1 33 p) ∧ (q.1 32 p = 0 → sn = pk (nu q 29 p)) ∧ (q.1 32 p ≠ 0 → sn = none)) ∧ (q.1 15 p = nI 2 → S = L.2.1 p)
def rHold (M : xM) (ow : xOw) (o : Option Nat) (p : Nat) (q : xrho) (L : xLs) (pk : Nat → Option Nat) : Prop := match o with
  | none => q.1 15 p = 0 ∧ q.1 30 p = 0 ∧ q.1 31 p = 0
  | some a => ∃ ra ka sa h sn R K S, oHA M ow (100 + p) a ra ka sa h sn R K S ∧ tie q L pk p h sn R K S
def FT (T0 : Nat) (M : xM) (ow : xOw) (fh : Nat → Option Nat) (q : xrho) (L : xLs) (pk : Nat → Option Nat) : Prop := ∀ h, h < 6 → ∃ a f, fh h = some a ∧ rHost T0 M ow h a f q ∧ ∀ r, r < 40 → rHold M ow (f r) (40 * h + r) q L pk
/-- a page of the book -/
def oPg (M : xM) (ow : xOw) (r a s : Nat) (gi ta mv uw od : Int32) : Prop := M.2.2 a = .inr (7, [vr (some s), vi gi, vi ta, vi mv, vi uw, vi od]) ∧ ow a = (400 + r, 0) ∧ a < M.1
def rPage (M : xM) (ow : xOw) (r : Nat) (o : Option Nat) (q : xrho) : Prop := match o with
  | none => q.1 2 r = 0
  | some a => q.1 2 r = 1 ∧ ∃ s gi ta uw, oPg M ow r a s gi ta (q.1 8 r) uw (nI (obits q r)) ∧ isSpot M ow s (nI r) (q.1 3 r) (q.1 4 r) (q.1 5 r) (q.1 6 r) ∧ (q.1 7 r < 0 → uw = 0) ∧ (¬ q.1 7 r < 0 → uw = 1 ∧ gi = q.1 6 r ∧ ta = q.1 7 r) ∧ (q.1 7 r < 0 → obits q r ≠ 0 → gi = q.1 10 r ∧ ta = q.1 11 r)
def FP (M : xM) (ow : xOw) (fp : Nat → Option Nat) (q : xrho) : Prop := ∀ r, r < 40 → rPage M ow r (fp r) q
/-- a caller, its copy, its calls -/
abbrev SV : Type := Int32 × Nat × Nat × Int32 × Int32
def sps (M : xM) (ow : xOw) (cs : List Nat) (vs : List SV) : Prop := cs.length = vs.length ∧ ∀ i (h1 : i < cs.length) (h2 : i < vs.length), isSpot M ow cs[i] vs[i].1 (nI vs[i].2.1) (nI vs[i].2.2.1) vs[i].2.2.2.1 vs[i].2.2.2.2
abbrev svH (v : SV) (k : Nat) : Prop := v.2.1 ≤ k ∧ k < v.2.2.1
def svQ (q : xrho) (c : Nat) (v : SV) : Prop := v.2.1 < v.2.2.1 ∧ v.2.2.1 ≤ 10000 ∧ ∀ k, svH v k → q.1 55 (10000 * c + k) = v.1 ∧ q.1 56 (10000 * c + k) = v.2.2.2.1 ∧ q.1 57 (10000 * c + k) = v.2.2.2.2 ∧ q.1 58 (10000 * c + k) = nI v.2.1 ∧ q.1 59 (10000 * c + k) = nI v.2.2.1
abbrev svD (v w : SV) : Prop := v.2.2.1 ≤ w.2.1 ∨ w.2.2.1 ≤ v.2.1
def cpV (q : xrho) (c : Nat) (vs : List SV) : Prop := (∀ v ∈ vs, svQ q c v) ∧ vs.Pairwise svD ∧ ∀ k, k < 10000 → ∃ v ∈ vs, svH v k
def oCa (T0 : Nat) (M : xM) (ow : xOw) (c a cp ak : Nat) (cs as : List Nat) : Prop := M.2.2 a = .inr (1, [vi (nI c), vr (some cp), vr (some ak)]) ∧ ow a = (500 + c, 0) ∧ a < M.1 ∧ oList T0 M ow (500 + c) 1 cp cs ∧ oList T0 M ow (500 + c) 3 ak as
def rCall (T0 : Nat) (M : xM) (ow : xOw) (c a : Nat) (q : xrho) (aa : Nat → Nat) (n : Nat) : Prop := ∃ cp ak cs as vs, oCa T0 M ow c a cp ak cs as ∧ sps M ow cs vs ∧ cpV q c vs ∧ vs.length ≤ 40 + 2 * n ∧ as.length = nu q 46 c ∧ ∀ j (hj : j < as.length), as[j] = aa (60 * c + j)
def FC (T0 : Nat) (M : xM) (ow : xOw) (cl : List Nat) (q : xrho) (aa : Nat → Nat) (n : Nat) : Prop := cl.length = nu q 45 0 ∧ ∀ c (hc : c < cl.length), rCall T0 M ow c cl[c] q aa n
def oAk (M : xM) (ow : xOw) (i j a : Nat) (kd ky : Int32) (v w : Int64) (an : Int32) (vv : Int64) (sg st : Int32) : Prop := M.2.2 a = .inr (0, [vi (nI j), vi kd, vi ky, vl v, vl w, vi an, vl vv, vi sg, vi st]) ∧ ow a = (1000 + i, 0) ∧ a < M.1
def rAsk (M : xM) (ow : xOw) (c j a : Nat) (q : xrho) : Prop := ∃ sg, oAk M ow (60 * c + j) j a (q.1 47 (60 * c + j)) (q.1 48 (60 * c + j)) (q.2 51 (60 * c + j)) (q.2 52 (60 * c + j)) (q.1 54 (60 * c + j)) (q.2 53 (60 * c + j)) sg (q.1 50 (60 * c + j)) ∧ (q.1 54 (60 * c + j) ≠ 0 → sg = q.1 49 (60 * c + j))
def FA (M : xM) (ow : xOw) (q : xrho) (aa : Nat → Nat) : Prop := ∀ c j, c < nu q 45 0 → j < nu q 46 c → rAsk M ow c j (aa (60 * c + j)) q
/-- a letter -/
def oLe (M : xM) (ow : xOw) (l a : Nat) (f : Nat → Int32) (v : Int64) (ask told par : Option Nat) : Prop := M.2.2 a = .inr (6, [vi (f 0), vi (f 1), vi (f 2), vi (f 3), vi (f 4), vi (f 5), vi (f 6), vi (f 7), vi (f 8), vl v, vi (f 10), vr ask, vr told, vr par, vi (f 14), vi (f 15)]) ∧ ow a = (2000 + l, 0) ∧ a < M.1
def leT (M : xM) (ow : xOw) (q : xrho) (L : xLs) (aa : Nat → Nat) (l : Nat) (f : Nat → Int32) (v : Int64) (ask told par : Option Nat) : Prop := (f 0 = q.1 60 l ∧ f 1 = q.1 62 l ∧ f 2 = q.1 61 l ∧ f 3 = q.1 63 l ∧ f 4 = q.1 64 l ∧ f 5 = q.1 66 l ∧ f 6 = q.1 67 l ∧ f 7 = q.1 68 l ∧ f 14 = q.1 75 l ∧ f 15 = q.1 65 l) ∧ (q.1 60 l = nI 3 → f 8 = q.1 72 l) ∧ (q.1 60 l = nI 1 → v = q.2 77 (3 * l) ∧ f 10 = q.1 73 l) ∧ (q.1 60 l = nI 0 → ask = some (aa (60 * nu q 62 l + nu q 66 l))) ∧ (q.1 60 l = nI 2 → (q.1 63 l = Int32.ofInt (-9) ∧ told = none) ∨ (q.1 63 l ≠ Int32.ofInt (-9) ∧ ∃ s, told = some s ∧ isSpot M ow s (q.1 63 l) (q.1 70 l) (q.1 71 l) (q.1 64 l) (q.1 72 l))) ∧ ((par = none ∧ q.1 69 l = Int32.ofInt (-9)) ∨ ∃ p, par = some p ∧ isPar M ow (10000 + p) p (q.1 70 l) (q.1 71 l) (q.1 69 l) (parcV q l (nu q 69 l)) (fun c => L.2.2.2 (6 * l + c)))
def rLet (M : xM) (ow : xOw) (l a : Nat) (q : xrho) (L : xLs) (aa : Nat → Nat) (par : Option Nat) : Prop := ∃ f v ask told, oLe M ow l a f v ask told par ∧ leT M ow q L aa l f v ask told par
def FL (M : xM) (ow : xOw) (ll : List Nat) (q : xrho) (L : xLs) (aa : Nat → Nat) (pk : Nat → Option Nat) : Prop := ll.length = nu q 82 0 ∧ ∀ l (hl : l < ll.length), rLet M ow l ll[l] q L aa (pk l)
def FD (ll dl : List Nat) (q : xrho) : Prop := dl.length = nu q 88 0 ∧ ∀ i (hi : i < dl.length), ∃ l, ∃ hl : l < ll.length, dl[i] = ll[l] ∧ q.1 83 i = q.1 62 l ∧ q.1 84 i = q.1 66 l ∧ q.1 85 i = q.1 61 l ∧ q.1 86 i = q.1 63 l ∧ q.1 87 i = q.1 64 l
def Rep (T0 X n : Nat) (ad : Nat → Nat) (fh fp : Nat → Option Nat) (cl ll dl : List Nat) (aa : Nat → Nat) (pk : Nat → Option Nat) (q : xrho) (L : xLs) (M : xM) (ow : xOw) : Prop := bnd ow M ∧ FH T0 M ow X ad fh fp cl ll dl q ∧ FT T0 M ow fh q L pk ∧ FP M ow fp q ∧ FC T0 M ow cl q aa n ∧ FA M ow q aa ∧ FL M ow ll q L aa pk ∧ FD ll dl q
/-! equal on the fields from .. to -/
def qe (lo hi : Nat) (q q' : xrho) : Prop := ∀ k i, lo ≤ k → k ≤ hi → q'.1 k i = q.1 k i
theorem qe_rf (lo hi : Nat) (q : xrho) : qe lo hi q q := fun _ _ _ _ => rfl
theorem qe_up {lo hi : Nat} {q q' : xrho} {k i : Nat} {x : Int32} (h : qe lo hi q q') (hk : k < lo ∨ hi < k) : qe lo hi q (rup q' k i x) := fun f j h1 h2 => by
  rw [rup_ne _ _ _ _ (by omega)]
  exact h f j h1 h2
theorem qe_upL {lo hi : Nat} {q q' : xrho} {k i : Nat} {x : Int64} (h : qe lo hi q q') : qe lo hi q (rupL q' k i x) := fun f j h1 h2 => by
  rw [rupL_1]
  exact h f j h1 h2
theorem qe_nu {lo hi : Nat} {q q' : xrho} (h : qe lo hi q q') {k i : Nat} (h1 : lo ≤ k) (h2 : k ≤ hi) : nu q' k i = nu q k i := by
  unfold nu
  rw [h k i h1 h2]
theorem oHo_f {P : Nat × Nat → Prop} {x y T0 X : Nat} {ow ow' : xOw} {M M' : xM} {ad : Nat → Nat} {fh fp : Nat → Option Nat} {cl ll dl : List Nat} {mk ov un : Int32} {g : Nat → Int32} (H : oHo T0 M ow X ad fh fp cl ll dl mk ov un g) (hs : stp P x y ow M ow' M') (hP : ∀ t : Nat × Nat, t.1 = 1 → P t) (h8 : ∀ t : Nat × Nat, t.1 = 8 → P t) : oHo T0 M' ow' X ad fh fp cl ll dl mk ov un g := by
  obtain ⟨h1, h2, h3, h4, ⟨o1, o2, o3, o4⟩, ⟨b1, b2, b3, b4⟩, l1, l2, l3⟩ := H
  have hl := hs.1
  refine ⟨?_, ?_, ?_, ?_, ⟨?_, ?_, ?_, ?_⟩, ⟨by omega, by omega, by omega, by omega⟩, oList_f l1 hs (fun t ht => hP t ht.1) h8, oList_f l2 hs (fun t ht => hP t ht.1) h8, oList_f l3 hs (fun t ht => hP t ht.1) h8⟩
  · rw [(hs.2.2.2 _ b1).2 (hP _ (by rw [o1]))]; exact h1
  · rw [(hs.2.2.2 _ b2).2 (hP _ (by rw [o2]))]; exact h2
  · rw [(hs.2.2.2 _ b3).2 (hP _ (by rw [o3]))]; exact h3
  · rw [(hs.2.2.2 _ b4).2 (hP _ (by rw [o4]))]; exact h4
  · rw [(hs.2.2.2 _ b1).1]; exact o1
  · rw [(hs.2.2.2 _ b2).1]; exact o2
  · rw [(hs.2.2.2 _ b3).1]; exact o3
  · rw [(hs.2.2.2 _ b4).1]; exact o4
theorem FH_f {P : Nat × Nat → Prop} {x y T0 X : Nat} {ow ow' : xOw} {M M' : xM} {ad : Nat → Nat} {fh fp : Nat → Option Nat} {cl ll dl : List Nat} {q q' : xrho} (H : FH T0 M ow X ad fh fp cl ll dl q) (hs : stp P x y ow M ow' M') (hP : ∀ t : Nat × Nat, t.1 = 1 → P t) (h8 : ∀ t : Nat × Nat, t.1 = 8 → P t) (e1 : qe 1 1 q q') (e2 : qe 12 14 q q') : FH T0 M' ow' X ad fh fp cl ll dl q' := by
  obtain ⟨g, h1, h2⟩ := H
  refine ⟨g, ?_, fun i hi => by rw [h2 i hi, e1 1 i (Nat.le_refl _) (Nat.le_refl _)]⟩
  rw [e2 12 0 (by decide) (by decide), e2 13 0 (by decide) (by decide), e2 14 0 (by decide) (by decide)]
  exact oHo_f h1 hs hP h8
theorem oHs_f {P : Nat × Nat → Prop} {x y T0 h a ar gv : Nat} {ow ow' : xOw} {M M' : xM} {f : Nat → Option Nat} {up : Int32} {gs : List Nat} (H : oHs T0 M ow h a ar gv f up gs) (hs : stp P x y ow M ow' M') (hP : ∀ t : Nat × Nat, t.1 = 10 + h → P t) (h8 : ∀ t : Nat × Nat, t.1 = 8 → P t) : oHs T0 M' ow' h a ar gv f up gs := by
  obtain ⟨h1, h2, ⟨o1, o2⟩, ⟨b1, b2⟩, l1⟩ := H
  have hl := hs.1
  refine ⟨?_, ?_, ⟨?_, ?_⟩, ⟨by omega, by omega⟩, oList_f l1 hs (fun t ht => hP t ht.1) h8⟩
  · rw [(hs.2.2.2 _ b1).2 (hP _ (by rw [o1]))]; exact h1
  · rw [(hs.2.2.2 _ b2).2 (hP _ (by rw [o2]))]; exact h2
  · rw [(hs.2.2.2 _ b1).1]; exact o1
  · rw [(hs.2.2.2 _ b2).1]; exact o2
theorem gvT_f {P : Nat × Nat → Prop} {x y h : Nat} {ow ow' : xOw} {M M' : xM} {gs : List Nat} {q q' : xrho} (H : gvT M ow gs q h) (hs : stp P x y ow M ow' M') (hP : ∀ t : Nat × Nat, t.1 = 9999 → P t) (e : qe 38 44 q q') : gvT M' ow' gs q' h := by
  have eg : gix q' h = gix q h := by
    unfold gix
    rw [qe_nu e (by decide) (by decide)]
    congr 1
    funext g
    rw [e 38 g (by decide) (by decide)]
  obtain ⟨h1, h2⟩ := H
  unfold gvT
  rw [eg]
  refine ⟨h1, fun j j1 j2 => ?_⟩
  rw [e 39 _ (by decide) (by decide), e 40 _ (by decide) (by decide), e 41 _ (by decide) (by decide), e 42 _ (by decide) (by decide), e 43 _ (by decide) (by decide)]
  exact isSpot_f (h2 j j1 j2) hs hP
theorem rHost_f {P : Nat × Nat → Prop} {x y T0 h a : Nat} {ow ow' : xOw} {M M' : xM} {f : Nat → Option Nat} {q q' : xrho} (H : rHost T0 M ow h a f q) (hs : stp P x y ow M ow' M') (hP : ∀ t : Nat × Nat, t.1 = 10 + h → P t) (h8 : ∀ t : Nat × Nat, t.1 = 8 → P t) (h9 : ∀ t : Nat × Nat, t.1 = 9999 → P t) (e0 : q'.1 0 h = q.1 0 h) (e : qe 38 44 q q') : rHost T0 M' ow' h a f q' := by
  obtain ⟨ar, gv, gs, h1, h2⟩ := H
  refine ⟨ar, gv, gs, ?_, gvT_f h2 hs h9 e⟩
  rw [e0]
  exact oHs_f h1 hs hP h8
/-- the values that a holding shows are the same -/
def hsame (q : xrho) (L : xLs) (pk : Nat → Option Nat) (p : Nat) (q' : xrho) (L' : xLs) (pk' : Nat → Option Nat) : Prop := (∀ k, (15 ≤ k ∧ k ≤ 18) ∨ (21 ≤ k ∧ k ≤ 23) ∨ (29 ≤ k ∧ k ≤ 33) → q'.1 k p = q.1 k p) ∧ L'.1 p = L.1 p ∧ L'.2.1 p = L.2.1 p ∧ (∀ c, c < 6 → L'.2.2.1 (6 * p + c) = L.2.2.1 (6 * p + c)) ∧ ((q.1 15 p = nI 2 ∨ q.1 15 p = nI 3) → q.1 32 p = 0 → pk' (nu q 29 p) = pk (nu q 29 p))
theorem tie_c {q q' : xrho} {L L' : xLs} {pk pk' : Nat → Option Nat} {p : Nat} {h : Nat → Int32} {sn : Option Nat} {R : RW} {K : Nat → KW} {S : List Int32} (H : tie q L pk p h sn R K S) (e : hsame q L pk p q' L' pk') : tie q' L' pk' p h sn R K S := by
  obtain ⟨e1, e2, e3, e4, e5⟩ := e
  unfold tie
  have n29 : nu q' 29 p = nu q 29 p := by
    unfold nu
    rw [e1 29 (by omega)]
  rw [n29, e1 15 (by omega), e1 16 (by omega), e1 17 (by omega), e1 18 (by omega), e1 21 (by omega), e1 22 (by omega), e1 23 (by omega), e1 30 (by omega), e1 31 (by omega), e1 32 (by omega), e1 33 (by omega), e2, e3]
  obtain ⟨h1, h2, h3, h4, h5, h6⟩ := H
  refine ⟨h1, h2, fun h0 => ⟨(h3 h0).1, (h3 h0).2.1, fun c hc => ?_⟩, h4, fun hg => ⟨(h5 hg).1, fun h0 => ?_, (h5 hg).2.2⟩, h6⟩
  · rw [e4 c hc]; exact (h3 h0).2.2 c hc
  · rw [e5 hg h0]; exact (h5 hg).2.1 h0
theorem rHold_f {P : Nat × Nat → Prop} {x y p : Nat} {ow ow' : xOw} {M M' : xM} {o : Option Nat} {q q' : xrho} {L L' : xLs} {pk pk' : Nat → Option Nat} (H : rHold M ow o p q L pk) (hs : stp P x y ow M ow' M') (hP : ∀ t : Nat × Nat, t.1 = 100 + p → P t) (e : hsame q L pk p q' L' pk') : rHold M' ow' o p q' L' pk' := by
  cases o with
  | none =>
    have e1 := e.1
    show q'.1 15 p = 0 ∧ q'.1 30 p = 0 ∧ q'.1 31 p = 0
    rw [e1 15 (by omega), e1 30 (by omega), e1 31 (by omega)]
    exact H
  | some a =>
    obtain ⟨ra, ka, sa, h, sn, R, K, S, h1, h2⟩ := H
    exact ⟨ra, ka, sa, h, sn, R, K, S, hA_f h1 hs hP, tie_c h2 e⟩
